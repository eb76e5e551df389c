abbrev rm_X9_go : Room := { frames := 2, cells := 0, slots := 0, locals := 44 }
def fX9_go_b56 (N : Nat) (a3 : Int32) (st : xSt) : Option xSt := if (st.1 9 0 40) = (0 : Int32) then nm (pI st 9 0 44 a3) (fun st45 => some st45) else nm (pI st 9 0 44 (0 : Int32)) (fun st44 => some st44)
set_option maxHeartbeats 4000000 in
set_option maxRecDepth 100000 in
theorem BX9_go_56 {p : Program} {l : Launch} {e : Env} {s : State} {m : MethodId} {args : Array Value} {below : List Frame} {meth : Method} {c : Code} {D : va_G} {la : Nat → Nat → Nat} {cyI cyF cyM : ClassId} {t0 N : Nat} {st' : xSt} (X : xCx D VM la cyI cyF cyM t0 p m c cX9_go 5 s args RX9) (hr : meth.sig.returnType = none) (hlk : meth.locks = false) : ∀ (a3 : Int32) (st : xSt) (H : Heap) (locs : List Loc) (ls : Array Slot), fX9_go_b56 N a3 st = some st' → HW D VM la (EMf cyI la) st H → va_S (xA VM la) s.heap H locs → lv_has ls 5 [(0, .ref (la 9 0)), (3, .int a3)] → W p l e rm_X9_go s m args below meth c H locs 0 0 (MQ below (xQc D VM la (EMf cyI la) none st') args s 0 0 (xA VM la)) (F0 m 56 ls []) := by
  have hx := X.1.1
  have hb := X.1.2.1
  intro a3 st H locs ls hf hP hS hl
  unfold fX9_go_b56 at hf
  refine lv_aload_n hx hb dX9_go_56 rfl (lv_at hl 0 rfl) ?_
  refine lv_aload_n hx hb dX9_go_57 rfl (lv_at hl 0 rfl) ?_
  refine gM_fault X hP fl_X9_152 dX9_go_58 ?_
  refine lv_if_ne (tgt := 68) hx hb dX9_go_61 (by decide) (fun c43 => ?_) (fun c43 => ?_)
  · replace hf := (if_neg c43).symm.trans hf
    refine lv_iconst (v := 0) hx hb dX9_go_68 (by decide) ?_
    refine pM_result X hP hS fl_X9_186 dX9_go_69 (fun H locs hP hS => ?_)
    obtain ⟨st44, hP, hf⟩ := nm_gen (P := fun z => HW D VM la (EMf cyI la) z H) hP hf
    obtain rfl := Option.some.inj hf
    exact w_vret X hr hlk hP hS dX9_go_72
  · replace hf := (if_pos c43).symm.trans hf
    refine lv_iload_n hx hb dX9_go_64 rfl (lv_at hl 1 rfl) ?_
    refine lv_goto (tgt := 69) hx hb dX9_go_65 (by decide) ?_
    refine pM_result X hP hS fl_X9_186 dX9_go_69 (fun H locs hP hS => ?_)
    obtain ⟨st45, hP, hf⟩ := nm_gen (P := fun z => HW D VM la (EMf cyI la) z H) hP hf
    obtain rfl := Option.some.inj hf
    exact w_vret X hr hlk hP hS dX9_go_72
def fX9_go_b106 (N : Nat) (st : xSt) : Option xSt := Option.bind (fX9_fails N (3 : Int32) st) (fun st46 => some st46)
set_option maxHeartbeats 4000000 in
set_option maxRecDepth 100000 in
theorem BX9_go_106 {p : Program} {l : Launch} {e : Env} {s : State} {m : MethodId} {args : Array Value} {below : List Frame} {meth : Method} {c : Code} {D : va_G} {la : Nat → Nat → Nat} {cyI cyF cyM : ClassId} {t0 N : Nat} {st' : xSt} (X : xCx D VM la cyI cyF cyM t0 p m c cX9_go 5 s args RX9) (hr : meth.sig.returnType = none) (hlk : meth.locks = false) : ∀ (st : xSt) (H : Heap) (locs : List Loc) (ls : Array Slot), fX9_go_b106 N st = some st' → HW D VM la (EMf cyI la) st H → va_S (xA VM la) s.heap H locs → lv_has ls 5 [(0, .ref (la 9 0))] → W p l e rm_X9_go s m args below meth c H locs 0 0 (MQ below (xQc D VM la (EMf cyI la) none st') args s 0 0 (xA VM la)) (F0 m 106 ls []) := by
  have hx := X.1.1
  have hb := X.1.2.1
  intro st H locs ls hf hP hS hl
  unfold fX9_go_b106 at hf
  refine lv_aload_n hx hb dX9_go_106 rfl (lv_at hl 0 rfl) ?_
  refine lv_iconst (v := 3) hx hb dX9_go_107 (by decide) ?_
  obtain ⟨st46, hr47, hf⟩ := bd_of hf
  refine w_V0 X (TX9_fails l hr47) hP hS rfl KX9_fails ml_X9_167 ⟨rfl, rfl⟩ ⟨by decide, by decide⟩ (x_recv (E := fun c i => (EMf cyI la) (st.1 c i) st.2 c i) (c0 := 9) (i0 := 0) X.2.2.1 hP rfl (ci := 9) rfl rfl) rfl hl.1 (Nat.le_of_ble_eq_true rfl) dX9_go_108 (fun H locs hP hS => ?_)
  obtain rfl := Option.some.inj hf
  exact w_vret X hr hlk hP hS dX9_go_111
def fX9_go_b265 (N : Nat) (k213 : Int32 → Int32 → Int32 → xSt → Option xSt) (a1 : Int32) (a3 : Int32) (a4 : Int32) (as0 : Int32) (as1 : Int32) (st : xSt) : Option xSt := if as1 < 0 ∨ 96 ≤ (as1).toNatClampNeg then none else nm (pI st 30 37 (as1).toNatClampNeg as0) (fun st63 => nm (a4 + (1 : Int32)) (fun x64 => k213 a1 a3 x64 st63))
set_option maxHeartbeats 4000000 in
set_option maxRecDepth 100000 in
theorem BX9_go_265 {p : Program} {l : Launch} {e : Env} {s : State} {m : MethodId} {args : Array Value} {below : List Frame} {meth : Method} {c : Code} {D : va_G} {la : Nat → Nat → Nat} {cyI cyF cyM : ClassId} {t0 N : Nat} {k213 : Int32 → Int32 → Int32 → xSt → Option xSt} {st' : xSt} (X : xCx D VM la cyI cyF cyM t0 p m c cX9_go 5 s args RX9) (hr : meth.sig.returnType = none) (hlk : meth.locks = false) (hk213 : ∀ (a1 : Int32) (a3 : Int32) (a4 : Int32) (st : xSt) (H : Heap) (locs : List Loc) (ls : Array Slot), k213 a1 a3 a4 st = some st' → HW D VM la (EMf cyI la) st H → va_S (xA VM la) s.heap H locs → lv_has ls 5 [(0, .ref (la 9 0)), (1, .int a1), (3, .int a3), (4, .int a4)] → W p l e rm_X9_go s m args below meth c H locs 0 0 (MQ below (xQc D VM la (EMf cyI la) none st') args s 0 0 (xA VM la)) (F0 m 213 ls [])) : ∀ (a1 : Int32) (a3 : Int32) (a4 : Int32) (as0 : Int32) (as1 : Int32) (st : xSt) (H : Heap) (locs : List Loc) (ls : Array Slot), fX9_go_b265 N k213 a1 a3 a4 as0 as1 st = some st' → HW D VM la (EMf cyI la) st H → va_S (xA VM la) s.heap H locs → lv_has ls 5 [(0, .ref (la 9 0)), (1, .int a1), (3, .int a3), (4, .int a4)] → W p l e rm_X9_go s m args below meth c H locs 0 0 (MQ below (xQc D VM la (EMf cyI la) none st') args s 0 0 (xA VM la)) (F0 m 265 ls [.int as0, .int as1, .ref (la 30 37)]) := by
  have hx := X.1.1
  have hb := X.1.2.1
  intro a1 a3 a4 as0 as1 st H locs ls hf hP hS hl
  unfold fX9_go_b265 at hf
  obtain ⟨hn62, hf⟩ := ck_of hf
  refine w_iast X hP hS (c0 := 30) (i0 := 37) (show 0 < lenM 37 by decide) (n := 96) (fun _ => rfl) hn62 dX9_go_265 (fun H locs hP hS => ?_)
  obtain ⟨st63, hP, hf⟩ := nm_gen (P := fun z => HW D VM la (EMf cyI la) z H) hP hf
  obtain ⟨x64, ex⟩ : ∃ y : Int32, y = (a4 + (1 : Int32)) := ⟨_, rfl⟩
  replace hf := nm_of hf ex
  refine lv_iinc (v := x64) (lv' := [(4, .int x64), (0, .ref (la 9 0)), (1, .int a1), (3, .int a3)]) hx hb dX9_go_266 hl (k := 3) rfl (by rw [ex]; rfl) (by decide) rfl (fun ls hl => ?_)
  clear ex
  refine lv_goto (tgt := 213) hx hb dX9_go_269 (by decide) ?_
  exact hk213 _ _ _ _ _ _ _  hf hP hS (lv_sub hl [1, 2, 3, 0] rfl)
def fX9_go_b264 (N : Nat) (k213 : Int32 → Int32 → Int32 → xSt → Option xSt) (a1 : Int32) (a3 : Int32) (a4 : Int32) (as0 : Int32) (st : xSt) : Option xSt := fX9_go_b265 N k213 a1 a3 a4 (0 : Int32) as0 st
set_option maxHeartbeats 4000000 in
set_option maxRecDepth 100000 in
theorem BX9_go_264 {p : Program} {l : Launch} {e : Env} {s : State} {m : MethodId} {args : Array Value} {below : List Frame} {meth : Method} {c : Code} {D : va_G} {la : Nat → Nat → Nat} {cyI cyF cyM : ClassId} {t0 N : Nat} {k213 : Int32 → Int32 → Int32 → xSt → Option xSt} {st' : xSt} (X : xCx D VM la cyI cyF cyM t0 p m c cX9_go 5 s args RX9) (hr : meth.sig.returnType = none) (hlk : meth.locks = false) (hk213 : ∀ (a1 : Int32) (a3 : Int32) (a4 : Int32) (st : xSt) (H : Heap) (locs : List Loc) (ls : Array Slot), k213 a1 a3 a4 st = some st' → HW D VM la (EMf cyI la) st H → va_S (xA VM la) s.heap H locs → lv_has ls 5 [(0, .ref (la 9 0)), (1, .int a1), (3, .int a3), (4, .int a4)] → W p l e rm_X9_go s m args below meth c H locs 0 0 (MQ below (xQc D VM la (EMf cyI la) none st') args s 0 0 (xA VM la)) (F0 m 213 ls [])) : ∀ (a1 : Int32) (a3 : Int32) (a4 : Int32) (as0 : Int32) (st : xSt) (H : Heap) (locs : List Loc) (ls : Array Slot), fX9_go_b264 N k213 a1 a3 a4 as0 st = some st' → HW D VM la (EMf cyI la) st H → va_S (xA VM la) s.heap H locs → lv_has ls 5 [(0, .ref (la 9 0)), (1, .int a1), (3, .int a3), (4, .int a4)] → W p l e rm_X9_go s m args below meth c H locs 0 0 (MQ below (xQc D VM la (EMf cyI la) none st') args s 0 0 (xA VM la)) (F0 m 264 ls [.int as0, .ref (la 30 37)]) := by
  have hx := X.1.1
  have hb := X.1.2.1
  intro a1 a3 a4 as0 st H locs ls hf hP hS hl
  unfold fX9_go_b264 at hf
  refine lv_iconst (v := 0) hx hb dX9_go_264 (by decide) ?_
  exact BX9_go_265 X hr hlk hk213 _ _ _ _ _ _ _ _ _  hf hP hS (lv_sub hl [0, 1, 2, 3] rfl)
def fX9_go_b213 (N : Nat) : Nat → Int32 → Int32 → Int32 → xSt → Option xSt
  | 0, _, _, _, _ => none
  | n + 1, a1, a3, a4, st => if (8 : Int32) ≤ a4 then nm (pI st 9 0 29 ((st.1 9 0 29) + (1 : Int32))) (fun st53 => nm (pI st53 9 0 15 ((st53.1 9 0 15) + (1 : Int32))) (fun st54 => if a3 = (-1 : Int32) then nm (pI st54 9 0 16 ((st54.1 9 0 16) + (0 : Int32))) (fun st57 => some st57) else nm (pI st54 9 0 16 ((st54.1 9 0 16) + (1 : Int32))) (fun st56 => some st56))) else if (st.1 9 0 39) ≤ a4 then fX9_go_b264 N (fX9_go_b213 N n) a1 a3 a4 (((8 : Int32) * (st.1 9 0 29)) + a4) st else if a1 < 0 ∨ 1024 ≤ (a1).toNatClampNeg then none else if (st.1 30 1 (a1).toNatClampNeg) ≤ a4 then fX9_go_b264 N (fX9_go_b213 N n) a1 a3 a4 (((8 : Int32) * (st.1 9 0 29)) + a4) st else if a4 < 0 ∨ 4 ≤ (a4).toNatClampNeg then none else fX9_go_b265 N (fX9_go_b213 N n) a1 a3 a4 (st.1 30 38 (a4).toNatClampNeg) (((8 : Int32) * (st.1 9 0 29)) + a4) st
set_option maxHeartbeats 4000000 in
set_option maxRecDepth 100000 in
theorem BX9_go_213 {p : Program} {l : Launch} {e : Env} {s : State} {m : MethodId} {args : Array Value} {below : List Frame} {meth : Method} {c : Code} {D : va_G} {la : Nat → Nat → Nat} {cyI cyF cyM : ClassId} {t0 N : Nat} {st' : xSt} (X : xCx D VM la cyI cyF cyM t0 p m c cX9_go 5 s args RX9) (hr : meth.sig.returnType = none) (hlk : meth.locks = false) : ∀ n : Nat, ∀ (a1 : Int32) (a3 : Int32) (a4 : Int32) (st : xSt) (H : Heap) (locs : List Loc) (ls : Array Slot), fX9_go_b213 N n a1 a3 a4 st = some st' → HW D VM la (EMf cyI la) st H → va_S (xA VM la) s.heap H locs → lv_has ls 5 [(0, .ref (la 9 0)), (1, .int a1), (3, .int a3), (4, .int a4)] → W p l e rm_X9_go s m args below meth c H locs 0 0 (MQ below (xQc D VM la (EMf cyI la) none st') args s 0 0 (xA VM la)) (F0 m 213 ls []) := by
  have hx := X.1.1
  have hb := X.1.2.1
  intro n
  induction n with
  | zero =>
    intro a1 a3 a4 st H locs ls hf hP hS hl
    rw [fX9_go_b213] at hf
    cases hf
  | succ n ih =>
    intro a1 a3 a4 st H locs ls hf hP hS hl
    rw [fX9_go_b213] at hf
    refine lv_iload hx hb dX9_go_213 (lv_at hl 3 rfl) ?_
    refine lv_bipush (v := 8) hx hb dX9_go_215 (by decide) ?_
    refine lv_icmp_ge (tgt := 272) hx hb dX9_go_217 (by decide) (fun c52 => ?_) (fun c52 => ?_)
    · replace hf := (if_pos c52).symm.trans hf
      refine lv_aload_n hx hb dX9_go_272 rfl (lv_at hl 0 rfl) ?_
      refine lv_dup hx hb dX9_go_273 rfl ?_
      refine gM_depth X hP fl_X9_161 dX9_go_274 ?_
      refine lv_iconst (v := 1) hx hb dX9_go_277 (by decide) ?_
      refine lv_iadd hx hb dX9_go_278 ?_
      refine pM_depth X hP hS fl_X9_161 dX9_go_279 (fun H locs hP hS => ?_)
      obtain ⟨st53, hP, hf⟩ := nm_gen (P := fun z => HW D VM la (EMf cyI la) z H) hP hf
      refine lv_aload_n hx hb dX9_go_282 rfl (lv_at hl 0 rfl) ?_
      refine lv_dup hx hb dX9_go_283 rfl ?_
      refine gM_callsEver X hP fl_X9_193 dX9_go_284 ?_
      refine lv_iconst (v := 1) hx hb dX9_go_287 (by decide) ?_
      refine lv_iadd hx hb dX9_go_288 ?_
      refine pM_callsEver X hP hS fl_X9_193 dX9_go_289 (fun H locs hP hS => ?_)
      obtain ⟨st54, hP, hf⟩ := nm_gen (P := fun z => HW D VM la (EMf cyI la) z H) hP hf
      refine lv_aload_n hx hb dX9_go_292 rfl (lv_at hl 0 rfl) ?_
      refine lv_dup hx hb dX9_go_293 rfl ?_
      refine gM_callsMade X hP fl_X9_196 dX9_go_294 ?_
      refine lv_iload_n hx hb dX9_go_297 rfl (lv_at hl 2 rfl) ?_
      refine lv_iconst (v := -1) hx hb dX9_go_298 (by decide) ?_
      refine lv_icmp_ne (tgt := 306) hx hb dX9_go_299 (by decide) (fun c55 => ?_) (fun c55 => ?_)
      · replace hf := (if_neg c55).symm.trans hf
        refine lv_iconst (v := 1) hx hb dX9_go_306 (by decide) ?_
        refine lv_iadd hx hb dX9_go_307 ?_
        refine pM_callsMade X hP hS fl_X9_196 dX9_go_308 (fun H locs hP hS => ?_)
        obtain ⟨st56, hP, hf⟩ := nm_gen (P := fun z => HW D VM la (EMf cyI la) z H) hP hf
        obtain rfl := Option.some.inj hf
        exact w_vret X hr hlk hP hS dX9_go_311
      · replace hf := (if_pos c55).symm.trans hf
        refine lv_iconst (v := 0) hx hb dX9_go_302 (by decide) ?_
        refine lv_goto (tgt := 307) hx hb dX9_go_303 (by decide) ?_
        refine lv_iadd hx hb dX9_go_307 ?_
        refine pM_callsMade X hP hS fl_X9_196 dX9_go_308 (fun H locs hP hS => ?_)
        obtain ⟨st57, hP, hf⟩ := nm_gen (P := fun z => HW D VM la (EMf cyI la) z H) hP hf
        obtain rfl := Option.some.inj hf
        exact w_vret X hr hlk hP hS dX9_go_311
    · replace hf := (if_neg c52).symm.trans hf
      refine lv_aload_n hx hb dX9_go_220 rfl (lv_at hl 0 rfl) ?_
      refine gM_local X hP fl_X9_62 dX9_go_221 ?_
      refine lv_bipush (v := 8) hx hb dX9_go_224 (by decide) ?_
      refine lv_aload_n hx hb dX9_go_226 rfl (lv_at hl 0 rfl) ?_
      refine gM_depth X hP fl_X9_161 dX9_go_227 ?_
      refine lv_imul hx hb dX9_go_230 ?_
      refine lv_iload hx hb dX9_go_231 (lv_at hl 3 rfl) ?_
      refine lv_iadd hx hb dX9_go_233 ?_
      refine lv_iload hx hb dX9_go_234 (lv_at hl 3 rfl) ?_
      refine lv_aload_n hx hb dX9_go_236 rfl (lv_at hl 0 rfl) ?_
      refine gM_givenMany X hP fl_X9_173 dX9_go_237 ?_
      refine lv_icmp_ge (tgt := 264) hx hb dX9_go_240 (by decide) (fun c58 => ?_) (fun c58 => ?_)
      · replace hf := (if_pos c58).symm.trans hf
        exact BX9_go_264 X hr hlk ih _ _ _ _ _ _ _ _  hf hP hS (lv_sub hl [0, 1, 2, 3] rfl)
      · replace hf := (if_neg c58).symm.trans hf
        refine lv_iload hx hb dX9_go_243 (lv_at hl 3 rfl) ?_
        refine lv_aload_n hx hb dX9_go_245 rfl (lv_at hl 0 rfl) ?_
        refine gM_memory X hP fl_X9_7 dX9_go_246 ?_
        refine lv_iload_n hx hb dX9_go_249 rfl (lv_at hl 1 rfl) ?_
        obtain ⟨hn59, hf⟩ := ck_of hf
        refine w_iald X hP (c0 := 30) (i0 := 1) (show 0 < lenM 1 by decide) (n := 1024) rfl hn59 dX9_go_250 ?_
        refine lv_icmp_ge (tgt := 264) hx hb dX9_go_251 (by decide) (fun c60 => ?_) (fun c60 => ?_)
        · replace hf := (if_pos c60).symm.trans hf
          exact BX9_go_264 X hr hlk ih _ _ _ _ _ _ _ _  hf hP hS (lv_sub hl [0, 1, 2, 3] rfl)
        · replace hf := (if_neg c60).symm.trans hf
          refine lv_aload_n hx hb dX9_go_254 rfl (lv_at hl 0 rfl) ?_
          refine gM_given X hP fl_X9_65 dX9_go_255 ?_
          refine lv_iload hx hb dX9_go_258 (lv_at hl 3 rfl) ?_
          obtain ⟨hn61, hf⟩ := ck_of hf
          refine w_iald X hP (c0 := 30) (i0 := 38) (show 0 < lenM 38 by decide) (n := 4) rfl hn61 dX9_go_260 ?_
          refine lv_goto (tgt := 265) hx hb dX9_go_261 (by decide) ?_
          exact BX9_go_265 X hr hlk ih _ _ _ _ _ _ _ _ _  hf hP hS (lv_sub hl [0, 1, 2, 3] rfl)
def fX9_go_b209 (N : Nat) (a1 : Int32) (a3 : Int32) (as0 : Int32) (as1 : Int32) (st : xSt) : Option xSt := if as1 < 0 ∨ 12 ≤ (as1).toNatClampNeg then none else nm (pI st 30 36 (as1).toNatClampNeg as0) (fun st51 => fX9_go_b213 N N a1 a3 (0 : Int32) st51)
set_option maxHeartbeats 4000000 in
set_option maxRecDepth 100000 in
theorem BX9_go_209 {p : Program} {l : Launch} {e : Env} {s : State} {m : MethodId} {args : Array Value} {below : List Frame} {meth : Method} {c : Code} {D : va_G} {la : Nat → Nat → Nat} {cyI cyF cyM : ClassId} {t0 N : Nat} {st' : xSt} (X : xCx D VM la cyI cyF cyM t0 p m c cX9_go 5 s args RX9) (hr : meth.sig.returnType = none) (hlk : meth.locks = false) : ∀ (a1 : Int32) (a3 : Int32) (as0 : Int32) (as1 : Int32) (st : xSt) (H : Heap) (locs : List Loc) (ls : Array Slot), fX9_go_b209 N a1 a3 as0 as1 st = some st' → HW D VM la (EMf cyI la) st H → va_S (xA VM la) s.heap H locs → lv_has ls 5 [(0, .ref (la 9 0)), (1, .int a1), (3, .int a3)] → W p l e rm_X9_go s m args below meth c H locs 0 0 (MQ below (xQc D VM la (EMf cyI la) none st') args s 0 0 (xA VM la)) (F0 m 209 ls [.int as0, .int as1, .ref (la 30 36)]) := by
  have hx := X.1.1
  have hb := X.1.2.1
  intro a1 a3 as0 as1 st H locs ls hf hP hS hl
  unfold fX9_go_b209 at hf
  obtain ⟨hn50, hf⟩ := ck_of hf
  refine w_iast X hP hS (c0 := 30) (i0 := 36) (show 0 < lenM 36 by decide) (n := 12) (fun _ => rfl) hn50 dX9_go_209 (fun H locs hP hS => ?_)
  obtain ⟨st51, hP, hf⟩ := nm_gen (P := fun z => HW D VM la (EMf cyI la) z H) hP hf
  refine lv_iconst (v := 0) hx hb dX9_go_210 (by decide) ?_
  refine lv_istore (lv' := [(4, .int (0 : Int32)), (0, .ref (la 9 0)), (1, .int a1), (3, .int a3)]) hx hb dX9_go_211 hl (by decide) rfl (fun ls hl => ?_)
  exact BX9_go_213 X hr hlk N _ _ _ _ _ _ _  hf hP hS (lv_sub hl [1, 2, 3, 0] rfl)
def fX9_go_b185 (N : Nat) (a1 : Int32) (as0 : Int32) (st : xSt) : Option xSt := if as0 = (-1 : Int32) then fX9_go_b209 N a1 as0 (-1 : Int32) (st.1 9 0 29) st else if as0 < 0 ∨ 21 ≤ (as0).toNatClampNeg then none else fX9_go_b209 N a1 as0 (st.1 30 9 (as0).toNatClampNeg) (st.1 9 0 29) st
set_option maxHeartbeats 4000000 in
set_option maxRecDepth 100000 in
theorem BX9_go_185 {p : Program} {l : Launch} {e : Env} {s : State} {m : MethodId} {args : Array Value} {below : List Frame} {meth : Method} {c : Code} {D : va_G} {la : Nat → Nat → Nat} {cyI cyF cyM : ClassId} {t0 N : Nat} {st' : xSt} (X : xCx D VM la cyI cyF cyM t0 p m c cX9_go 5 s args RX9) (hr : meth.sig.returnType = none) (hlk : meth.locks = false) : ∀ (a1 : Int32) (as0 : Int32) (st : xSt) (H : Heap) (locs : List Loc) (ls : Array Slot), fX9_go_b185 N a1 as0 st = some st' → HW D VM la (EMf cyI la) st H → va_S (xA VM la) s.heap H locs → lv_has ls 5 [(0, .ref (la 9 0)), (1, .int a1)] → W p l e rm_X9_go s m args below meth c H locs 0 0 (MQ below (xQc D VM la (EMf cyI la) none st') args s 0 0 (xA VM la)) (F0 m 185 ls [.int as0]) := by
  have hx := X.1.1
  have hb := X.1.2.1
  intro a1 as0 st H locs ls hf hP hS hl
  unfold fX9_go_b185 at hf
  refine lv_istore_n (lv' := [(3, .int as0), (0, .ref (la 9 0)), (1, .int a1)]) hx hb dX9_go_185 rfl hl (by decide) rfl (fun ls hl => ?_)
  refine lv_aload_n hx hb dX9_go_186 rfl (lv_at hl 1 rfl) ?_
  refine gM_number X hP fl_X9_59 dX9_go_187 ?_
  refine lv_aload_n hx hb dX9_go_190 rfl (lv_at hl 1 rfl) ?_
  refine gM_depth X hP fl_X9_161 dX9_go_191 ?_
  refine lv_iload_n hx hb dX9_go_194 rfl (lv_at hl 0 rfl) ?_
  refine lv_iconst (v := -1) hx hb dX9_go_195 (by decide) ?_
  refine lv_icmp_ne (tgt := 203) hx hb dX9_go_196 (by decide) (fun c48 => ?_) (fun c48 => ?_)
  · replace hf := (if_neg c48).symm.trans hf
    refine lv_aload_n hx hb dX9_go_203 rfl (lv_at hl 1 rfl) ?_
    refine gM_keptNumber X hP fl_X9_28 dX9_go_204 ?_
    refine lv_iload_n hx hb dX9_go_207 rfl (lv_at hl 0 rfl) ?_
    obtain ⟨hn49, hf⟩ := ck_of hf
    refine w_iald X hP (c0 := 30) (i0 := 9) (show 0 < lenM 9 by decide) (n := 21) rfl hn49 dX9_go_208 ?_
    exact BX9_go_209 X hr hlk _ _ _ _ _ _ _ _  hf hP hS (lv_sub hl [1, 2, 0] rfl)
  · replace hf := (if_pos c48).symm.trans hf
    refine lv_iconst (v := -1) hx hb dX9_go_199 (by decide) ?_
    refine lv_goto (tgt := 209) hx hb dX9_go_200 (by decide) ?_
    exact BX9_go_209 X hr hlk _ _ _ _ _ _ _ _  hf hP hS (lv_sub hl [1, 2, 0] rfl)
def fX9_go_b73 (N : Nat) (a1 : Int32) (a2 : Int32) (st : xSt) : Option xSt := if (st.1 9 0 29) = (12 : Int32) then Option.bind (fX9_fails N (4 : Int32) st) (fun st41 => some st41) else bd (fX9_isAddress N a1 st) (fun v22 st20 => if v22 = (0 : Int32) then fX9_go_b106 N st20 else if a1 < 0 ∨ 1024 ≤ (a1).toNatClampNeg then none else if (st20.1 30 1 (a1).toNatClampNeg) ≤ (8 : Int32) then if (st20.1 9 0 29) < 0 ∨ 12 ≤ ((st20.1 9 0 29)).toNatClampNeg then none else nm (pI st20 30 31 ((st20.1 9 0 29)).toNatClampNeg a1) (fun st27 => if (st27.1 9 0 29) < 0 ∨ 12 ≤ ((st27.1 9 0 29)).toNatClampNeg then none else nm (pI st27 30 32 ((st27.1 9 0 29)).toNatClampNeg (a1 + (1 : Int32))) (fun st29 => if a1 < 0 ∨ 1024 ≤ (a1).toNatClampNeg then none else if (st29.1 9 0 29) < 0 ∨ 12 ≤ ((st29.1 9 0 29)).toNatClampNeg then none else nm (pI st29 30 33 ((st29.1 9 0 29)).toNatClampNeg (st29.1 30 1 (a1).toNatClampNeg)) (fun st32 => if (st32.1 9 0 29) < 0 ∨ 12 ≤ ((st32.1 9 0 29)).toNatClampNeg then none else nm (pI st32 30 34 ((st32.1 9 0 29)).toNatClampNeg (0 : Int32)) (fun st34 => if (st34.1 9 0 29) < 0 ∨ 12 ≤ ((st34.1 9 0 29)).toNatClampNeg then none else nm (pI st34 30 35 ((st34.1 9 0 29)).toNatClampNeg a2) (fun st36 => if (st36.1 9 0 30) = (0 : Int32) then fX9_go_b185 N a1 (-1 : Int32) st36 else bd (fX9_keptOf N a1 st36) (fun v40 st38 => fX9_go_b185 N a1 v40 st38)))))) else fX9_go_b106 N st20)
set_option maxHeartbeats 4000000 in
set_option maxRecDepth 100000 in
theorem BX9_go_73 {p : Program} {l : Launch} {e : Env} {s : State} {m : MethodId} {args : Array Value} {below : List Frame} {meth : Method} {c : Code} {D : va_G} {la : Nat → Nat → Nat} {cyI cyF cyM : ClassId} {t0 N : Nat} {st' : xSt} (X : xCx D VM la cyI cyF cyM t0 p m c cX9_go 5 s args RX9) (hr : meth.sig.returnType = none) (hlk : meth.locks = false) : ∀ (a1 : Int32) (a2 : Int32) (st : xSt) (H : Heap) (locs : List Loc) (ls : Array Slot), fX9_go_b73 N a1 a2 st = some st' → HW D VM la (EMf cyI la) st H → va_S (xA VM la) s.heap H locs → lv_has ls 5 [(0, .ref (la 9 0)), (1, .int a1), (2, .int a2)] → W p l e rm_X9_go s m args below meth c H locs 0 0 (MQ below (xQc D VM la (EMf cyI la) none st') args s 0 0 (xA VM la)) (F0 m 73 ls []) := by
  have hx := X.1.1
  have hb := X.1.2.1
  intro a1 a2 st H locs ls hf hP hS hl
  unfold fX9_go_b73 at hf
  refine lv_aload_n hx hb dX9_go_73 rfl (lv_at hl 0 rfl) ?_
  refine gM_depth X hP fl_X9_161 dX9_go_74 ?_
  refine lv_bipush (v := 12) hx hb dX9_go_77 (by decide) ?_
  refine lv_icmp_ne (tgt := 88) hx hb dX9_go_79 (by decide) (fun c19 => ?_) (fun c19 => ?_)
  · replace hf := (if_neg c19).symm.trans hf
    refine lv_iload_n hx hb dX9_go_88 rfl (lv_at hl 1 rfl) ?_
    obtain ⟨v22, st20, hr21, hf⟩ := bd_2 hf
    refine w_S1 X (TX9_isAddress l hr21) hP hS rfl KX9_isAddress ml_X9_140 ⟨rfl, rfl⟩ ⟨by decide, by decide⟩ rfl hl.1 (Nat.le_of_ble_eq_true rfl) dX9_go_89 (fun H locs hP hS => ?_)
    refine lv_if_eq (tgt := 106) hx hb dX9_go_92 (by decide) (fun c23 => ?_) (fun c23 => ?_)
    · replace hf := (if_pos c23).symm.trans hf
      exact BX9_go_106 X hr hlk _ _ _ _  hf hP hS (lv_sub hl [0] rfl)
    · replace hf := (if_neg c23).symm.trans hf
      refine lv_aload_n hx hb dX9_go_95 rfl (lv_at hl 0 rfl) ?_
      refine gM_memory X hP fl_X9_7 dX9_go_96 ?_
      refine lv_iload_n hx hb dX9_go_99 rfl (lv_at hl 1 rfl) ?_
      obtain ⟨hn24, hf⟩ := ck_of hf
      refine w_iald X hP (c0 := 30) (i0 := 1) (show 0 < lenM 1 by decide) (n := 1024) rfl hn24 dX9_go_100 ?_
      refine lv_bipush (v := 8) hx hb dX9_go_101 (by decide) ?_
      refine lv_icmp_le (tgt := 112) hx hb dX9_go_103 (by decide) (fun c25 => ?_) (fun c25 => ?_)
      · replace hf := (if_pos c25).symm.trans hf
        refine lv_aload_n hx hb dX9_go_112 rfl (lv_at hl 0 rfl) ?_
        refine gM_address X hP fl_X9_44 dX9_go_113 ?_
        refine lv_aload_n hx hb dX9_go_116 rfl (lv_at hl 0 rfl) ?_
        refine gM_depth X hP fl_X9_161 dX9_go_117 ?_
        refine lv_iload_n hx hb dX9_go_120 rfl (lv_at hl 1 rfl) ?_
        obtain ⟨hn26, hf⟩ := ck_of hf
        refine w_iast X hP hS (c0 := 30) (i0 := 31) (show 0 < lenM 31 by decide) (n := 12) (fun _ => rfl) hn26 dX9_go_121 (fun H locs hP hS => ?_)
        obtain ⟨st27, hP, hf⟩ := nm_gen (P := fun z => HW D VM la (EMf cyI la) z H) hP hf
        refine lv_aload_n hx hb dX9_go_122 rfl (lv_at hl 0 rfl) ?_
        refine gM_at X hP fl_X9_47 dX9_go_123 ?_
        refine lv_aload_n hx hb dX9_go_126 rfl (lv_at hl 0 rfl) ?_
        refine gM_depth X hP fl_X9_161 dX9_go_127 ?_
        refine lv_iload_n hx hb dX9_go_130 rfl (lv_at hl 1 rfl) ?_
        refine lv_iconst (v := 1) hx hb dX9_go_131 (by decide) ?_
        refine lv_iadd hx hb dX9_go_132 ?_
        obtain ⟨hn28, hf⟩ := ck_of hf
        refine w_iast X hP hS (c0 := 30) (i0 := 32) (show 0 < lenM 32 by decide) (n := 12) (fun _ => rfl) hn28 dX9_go_133 (fun H locs hP hS => ?_)
        obtain ⟨st29, hP, hf⟩ := nm_gen (P := fun z => HW D VM la (EMf cyI la) z H) hP hf
        refine lv_aload_n hx hb dX9_go_134 rfl (lv_at hl 0 rfl) ?_
        refine gM_locals X hP fl_X9_50 dX9_go_135 ?_
        refine lv_aload_n hx hb dX9_go_138 rfl (lv_at hl 0 rfl) ?_
        refine gM_depth X hP fl_X9_161 dX9_go_139 ?_
        refine lv_aload_n hx hb dX9_go_142 rfl (lv_at hl 0 rfl) ?_
        refine gM_memory X hP fl_X9_7 dX9_go_143 ?_
        refine lv_iload_n hx hb dX9_go_146 rfl (lv_at hl 1 rfl) ?_
        obtain ⟨hn30, hf⟩ := ck_of hf
        refine w_iald X hP (c0 := 30) (i0 := 1) (show 0 < lenM 1 by decide) (n := 1024) rfl hn30 dX9_go_147 ?_
        obtain ⟨hn31, hf⟩ := ck_of hf
        refine w_iast X hP hS (c0 := 30) (i0 := 33) (show 0 < lenM 33 by decide) (n := 12) (fun _ => rfl) hn31 dX9_go_148 (fun H locs hP hS => ?_)
        obtain ⟨st32, hP, hf⟩ := nm_gen (P := fun z => HW D VM la (EMf cyI la) z H) hP hf
        refine lv_aload_n hx hb dX9_go_149 rfl (lv_at hl 0 rfl) ?_
        refine gM_catches X hP fl_X9_53 dX9_go_150 ?_
        refine lv_aload_n hx hb dX9_go_153 rfl (lv_at hl 0 rfl) ?_
        refine gM_depth X hP fl_X9_161 dX9_go_154 ?_
        refine lv_iconst (v := 0) hx hb dX9_go_157 (by decide) ?_
        obtain ⟨hn33, hf⟩ := ck_of hf
        refine w_iast X hP hS (c0 := 30) (i0 := 34) (show 0 < lenM 34 by decide) (n := 12) (fun _ => rfl) hn33 dX9_go_158 (fun H locs hP hS => ?_)
        obtain ⟨st34, hP, hf⟩ := nm_gen (P := fun z => HW D VM la (EMf cyI la) z H) hP hf
        refine lv_aload_n hx hb dX9_go_159 rfl (lv_at hl 0 rfl) ?_
        refine gM_cell X hP fl_X9_56 dX9_go_160 ?_
        refine lv_aload_n hx hb dX9_go_163 rfl (lv_at hl 0 rfl) ?_
        refine gM_depth X hP fl_X9_161 dX9_go_164 ?_
        refine lv_iload_n hx hb dX9_go_167 rfl (lv_at hl 2 rfl) ?_
        obtain ⟨hn35, hf⟩ := ck_of hf
        refine w_iast X hP hS (c0 := 30) (i0 := 35) (show 0 < lenM 35 by decide) (n := 12) (fun _ => rfl) hn35 dX9_go_168 (fun H locs hP hS => ?_)
        obtain ⟨st36, hP, hf⟩ := nm_gen (P := fun z => HW D VM la (EMf cyI la) z H) hP hf
        refine lv_aload_n hx hb dX9_go_169 rfl (lv_at hl 0 rfl) ?_
        refine gM_byMade X hP fl_X9_189 dX9_go_170 ?_
        refine lv_if_eq (tgt := 184) hx hb dX9_go_173 (by decide) (fun c37 => ?_) (fun c37 => ?_)
        · replace hf := (if_pos c37).symm.trans hf
          refine lv_iconst (v := -1) hx hb dX9_go_184 (by decide) ?_
          exact BX9_go_185 X hr hlk _ _ _ _ _ _  hf hP hS (lv_sub hl [0, 1] rfl)
        · replace hf := (if_neg c37).symm.trans hf
          refine lv_aload_n hx hb dX9_go_176 rfl (lv_at hl 0 rfl) ?_
          refine lv_iload_n hx hb dX9_go_177 rfl (lv_at hl 1 rfl) ?_
          obtain ⟨v40, st38, hr39, hf⟩ := bd_2 hf
          refine w_V1 X (TX9_keptOf l hr39) hP hS rfl KX9_keptOf ml_X9_146 ⟨rfl, rfl⟩ ⟨by decide, by decide⟩ (x_recv (E := fun c i => (EMf cyI la) (st36.1 c i) st36.2 c i) (c0 := 9) (i0 := 0) X.2.2.1 hP rfl (ci := 9) rfl rfl) rfl hl.1 (Nat.le_of_ble_eq_true rfl) dX9_go_178 (fun H locs hP hS => ?_)
          refine lv_goto (tgt := 185) hx hb dX9_go_181 (by decide) ?_
          exact BX9_go_185 X hr hlk _ _ _ _ _ _  hf hP hS (lv_sub hl [0, 1] rfl)
      · replace hf := (if_neg c25).symm.trans hf
        exact BX9_go_106 X hr hlk _ _ _ _  hf hP hS (lv_sub hl [0] rfl)
  · replace hf := (if_pos c19).symm.trans hf
    refine lv_aload_n hx hb dX9_go_82 rfl (lv_at hl 0 rfl) ?_
    refine lv_iconst (v := 4) hx hb dX9_go_83 (by decide) ?_
    obtain ⟨st41, hr42, hf⟩ := bd_of hf
    refine w_V0 X (TX9_fails l hr42) hP hS rfl KX9_fails ml_X9_167 ⟨rfl, rfl⟩ ⟨by decide, by decide⟩ (x_recv (E := fun c i => (EMf cyI la) (st.1 c i) st.2 c i) (c0 := 9) (i0 := 0) X.2.2.1 hP rfl (ci := 9) rfl rfl) rfl hl.1 (Nat.le_of_ble_eq_true rfl) dX9_go_84 (fun H locs hP hS => ?_)
    obtain rfl := Option.some.inj hf
    exact w_vret X hr hlk hP hS dX9_go_87
def fX9_go (N : Nat) (a1 : Int32) (a2 : Int32) (st : xSt) : Option xSt := bd (fX9_isAddress N a1 st) (fun v3 st1 => if v3 = (0 : Int32) then fX9_go_b73 N a1 a2 st1 else if (a1 / (4 : Int32)) < 0 ∨ 256 ≤ ((a1 / (4 : Int32))).toNatClampNeg then none else if (st1.1 30 4 ((a1 / (4 : Int32))).toNatClampNeg) = (0 : Int32) then fX9_go_b73 N a1 a2 st1 else bd (fX9_step N st1) (fun v9 st7 => if v9 = (0 : Int32) then some st7 else if (a1 / (4 : Int32)) < 0 ∨ 256 ≤ ((a1 / (4 : Int32))).toNatClampNeg then none else bd (fX9_builtIn N (st7.1 30 4 ((a1 / (4 : Int32))).toNatClampNeg) st7) (fun v14 st12 => if (st12.1 9 0 40) = (0 : Int32) then if a2 = (-1 : Int32) then fX9_go_b56 N v14 st12 else Option.bind (fX9_becomes N a2 v14 st12) (fun st17 => fX9_go_b56 N v14 st17) else fX9_go_b56 N v14 st12)))
set_option maxHeartbeats 4000000 in
set_option maxRecDepth 100000 in
theorem TX9_go (l : Launch) {D : va_G} {la : Nat → Nat → Nat} {cyI cyF cyM : ClassId} {t0 N : Nat} {a1 : Int32} {a2 : Int32} {st : xSt} {st' : xSt} (hf : fX9_go N a1 a2 st = some st') : MetM D cyI cyF cyM la t0 l yX9_go (Cond.code yX9_go cX9_go 5 none :: xALL) rm_X9_go [.ref (la 9 0), .int a1, .int a2] none st st' := by
  refine MetW.intro (own := RX9) (by decide) (Nat.le_of_ble_eq_true rfl) rfl ?_
  intro p e s m below meth c X hr hlk hP ls hl
  have hx := X.1.1
  have hb := X.1.2.1
  have hS : va_S (xA VM la) s.heap s.heap [] := va_S.rf
  unfold fX9_go at hf
  replace hl : lv_has ls 5 [(0, .ref (la 9 0)), (1, .int a1), (2, .int a2)] := hl
  refine lv_iload_n hx hb dX9_go_0 rfl (lv_at hl 1 rfl) ?_
  obtain ⟨v3, st1, hr2, hf⟩ := bd_2 hf
  refine w_S1 X (TX9_isAddress l hr2) hP hS rfl KX9_isAddress ml_X9_140 ⟨rfl, rfl⟩ ⟨by decide, by decide⟩ rfl hl.1 (Nat.le_of_ble_eq_true rfl) dX9_go_1 (fun H locs hP hS => ?_)
  refine lv_if_eq (tgt := 73) hx hb dX9_go_4 (by decide) (fun c4 => ?_) (fun c4 => ?_)
  · replace hf := (if_pos c4).symm.trans hf
    exact BX9_go_73 X hr hlk _ _ _ _ _ _  hf hP hS (lv_sub hl [0, 1, 2] rfl)
  · replace hf := (if_neg c4).symm.trans hf
    refine lv_aload_n hx hb dX9_go_7 rfl (lv_at hl 0 rfl) ?_
    refine gM_accelerated X hP fl_X9_19 dX9_go_8 ?_
    refine lv_iload_n hx hb dX9_go_11 rfl (lv_at hl 1 rfl) ?_
    refine lv_iconst (v := 4) hx hb dX9_go_12 (by decide) ?_
    refine lv_idiv hx hb dX9_go_13 (by decide) ?_
    obtain ⟨hn5, hf⟩ := ck_of hf
    refine w_iald X hP (c0 := 30) (i0 := 4) (show 0 < lenM 4 by decide) (n := 256) rfl hn5 dX9_go_14 ?_
    refine lv_if_eq (tgt := 73) hx hb dX9_go_15 (by decide) (fun c6 => ?_) (fun c6 => ?_)
    · replace hf := (if_pos c6).symm.trans hf
      exact BX9_go_73 X hr hlk _ _ _ _ _ _  hf hP hS (lv_sub hl [0, 1, 2] rfl)
    · replace hf := (if_neg c6).symm.trans hf
      refine lv_aload_n hx hb dX9_go_18 rfl (lv_at hl 0 rfl) ?_
      obtain ⟨v9, st7, hr8, hf⟩ := bd_2 hf
      refine w_V1 X (TX9_step l hr8) hP hS rfl KX9_step ml_X9_176 ⟨rfl, rfl⟩ ⟨by decide, by decide⟩ (x_recv (E := fun c i => (EMf cyI la) (st1.1 c i) st1.2 c i) (c0 := 9) (i0 := 0) X.2.2.1 hP rfl (ci := 9) rfl rfl) rfl hl.1 (Nat.le_of_ble_eq_true rfl) dX9_go_19 (fun H locs hP hS => ?_)
      refine lv_if_eq (tgt := 72) hx hb dX9_go_22 (by decide) (fun c10 => ?_) (fun c10 => ?_)
      · replace hf := (if_pos c10).symm.trans hf
        obtain rfl := Option.some.inj hf
        exact w_vret X hr hlk hP hS dX9_go_72
      · replace hf := (if_neg c10).symm.trans hf
        refine lv_aload_n hx hb dX9_go_25 rfl (lv_at hl 0 rfl) ?_
        refine lv_aload_n hx hb dX9_go_26 rfl (lv_at hl 0 rfl) ?_
        refine gM_accelerated X hP fl_X9_19 dX9_go_27 ?_
        refine lv_iload_n hx hb dX9_go_30 rfl (lv_at hl 1 rfl) ?_
        refine lv_iconst (v := 4) hx hb dX9_go_31 (by decide) ?_
        refine lv_idiv hx hb dX9_go_32 (by decide) ?_
        obtain ⟨hn11, hf⟩ := ck_of hf
        refine w_iald X hP (c0 := 30) (i0 := 4) (show 0 < lenM 4 by decide) (n := 256) rfl hn11 dX9_go_33 ?_
        obtain ⟨v14, st12, hr13, hf⟩ := bd_2 hf
        refine w_V1 X (TX9_builtIn l hr13) hP hS rfl KX9_builtIn ml_X9_180 ⟨rfl, rfl⟩ ⟨by decide, by decide⟩ (x_recv (E := fun c i => (EMf cyI la) (st7.1 c i) st7.2 c i) (c0 := 9) (i0 := 0) X.2.2.1 hP rfl (ci := 9) rfl rfl) rfl hl.1 (Nat.le_of_ble_eq_true rfl) dX9_go_34 (fun H locs hP hS => ?_)
        refine lv_istore_n (lv' := [(3, .int v14), (0, .ref (la 9 0)), (1, .int a1), (2, .int a2)]) hx hb dX9_go_37 rfl hl (by decide) rfl (fun ls hl => ?_)
        refine lv_aload_n hx hb dX9_go_38 rfl (lv_at hl 1 rfl) ?_
        refine gM_fault X hP fl_X9_152 dX9_go_39 ?_
        refine lv_if_ne (tgt := 56) hx hb dX9_go_42 (by decide) (fun c15 => ?_) (fun c15 => ?_)
        · replace hf := (if_neg c15).symm.trans hf
          exact BX9_go_56 X hr hlk _ _ _ _ _  hf hP hS (lv_sub hl [1, 0] rfl)
        · replace hf := (if_pos c15).symm.trans hf
          refine lv_iload_n hx hb dX9_go_45 rfl (lv_at hl 3 rfl) ?_
          refine lv_iconst (v := -1) hx hb dX9_go_46 (by decide) ?_
          refine lv_icmp_eq (tgt := 56) hx hb dX9_go_47 (by decide) (fun c16 => ?_) (fun c16 => ?_)
          · replace hf := (if_pos c16).symm.trans hf
            exact BX9_go_56 X hr hlk _ _ _ _ _  hf hP hS (lv_sub hl [1, 0] rfl)
          · replace hf := (if_neg c16).symm.trans hf
            refine lv_aload_n hx hb dX9_go_50 rfl (lv_at hl 1 rfl) ?_
            refine lv_iload_n hx hb dX9_go_51 rfl (lv_at hl 3 rfl) ?_
            refine lv_iload_n hx hb dX9_go_52 rfl (lv_at hl 0 rfl) ?_
            obtain ⟨st17, hr18, hf⟩ := bd_of hf
            refine w_V0 X (TX9_becomes l hr18) hP hS rfl KX9_becomes ml_X9_183 ⟨rfl, rfl⟩ ⟨by decide, by decide⟩ (x_recv (E := fun c i => (EMf cyI la) (st12.1 c i) st12.2 c i) (c0 := 9) (i0 := 0) X.2.2.1 hP rfl (ci := 9) rfl rfl) rfl hl.1 (Nat.le_of_ble_eq_true rfl) dX9_go_53 (fun H locs hP hS => ?_)
            exact BX9_go_56 X hr hlk _ _ _ _ _  hf hP hS (lv_sub hl [1, 0] rfl)
theorem KX9_go : xKv yX9_go cX9_go 5 none RX9 2 := ⟨cd_X9_go, im_X9_go, se_X9_go, in_X9, by decide +kernel⟩
abbrev rm_X9_isMade : Room := { frames := 0, cells := 0, slots := 0, locals := 0 }
def fX9_isMade_b2 (N : Nat) : Nat → Int32 → xSt → Option (Int32 × xSt)
  | 0, _, _ => none
  | n + 1, a1, st => if (st.1 9 0 6) ≤ a1 then some ((0 : Int32), st) else if a1 < 0 ∨ 21 ≤ (a1).toNatClampNeg then none else if ((st.1 9 0 29) - (1 : Int32)) < 0 ∨ 12 ≤ (((st.1 9 0 29) - (1 : Int32))).toNatClampNeg then none else if (st.1 30 9 (a1).toNatClampNeg) = (st.1 30 36 (((st.1 9 0 29) - (1 : Int32))).toNatClampNeg) then some ((1 : Int32), st) else nm (a1 + (1 : Int32)) (fun x5 => fX9_isMade_b2 N n x5 st)
set_option maxHeartbeats 4000000 in
set_option maxRecDepth 100000 in
theorem BX9_isMade_2 {p : Program} {l : Launch} {e : Env} {s : State} {m : MethodId} {args : Array Value} {below : List Frame} {meth : Method} {c : Code} {D : va_G} {la : Nat → Nat → Nat} {cyI cyF cyM : ClassId} {t0 N : Nat} {r : Int32} {st' : xSt} (X : xCx D VM la cyI cyF cyM t0 p m c cX9_isMade 2 s args RX9) (hr : meth.sig.returnType = (some .boolean)) (hlk : meth.locks = false) : ∀ n : Nat, ∀ (a1 : Int32) (st : xSt) (H : Heap) (locs : List Loc) (ls : Array Slot), fX9_isMade_b2 N n a1 st = some (r, st') → HW D VM la (EMf cyI la) st H → va_S (xA VM la) s.heap H locs → lv_has ls 2 [(0, .ref (la 9 0)), (1, .int a1)] → W p l e rm_X9_isMade s m args below meth c H locs 0 0 (MQ below (xQc D VM la (EMf cyI la) (some (.int r)) st') args s 0 0 (xA VM la)) (F0 m 2 ls []) := by
  have hx := X.1.1
  have hb := X.1.2.1
  intro n
  induction n with
  | zero =>
    intro a1 st H locs ls hf hP hS hl
    rw [fX9_isMade_b2] at hf
    cases hf
  | succ n ih =>
    intro a1 st H locs ls hf hP hS hl
    rw [fX9_isMade_b2] at hf
    refine lv_iload_n hx hb dX9_isMade_2 rfl (lv_at hl 1 rfl) ?_
    refine lv_aload_n hx hb dX9_isMade_3 rfl (lv_at hl 0 rfl) ?_
    refine gM_kept X hP fl_X9_80 dX9_isMade_4 ?_
    refine lv_icmp_ge (tgt := 38) hx hb dX9_isMade_7 (by decide) (fun c1 => ?_) (fun c1 => ?_)
    · replace hf := (if_pos c1).symm.trans hf
      refine lv_iconst (v := 0) hx hb dX9_isMade_38 (by decide) ?_
      obtain ⟨rfl, rfl⟩ := sp_2 hf
      exact w_zret X hr hlk (by decide) hP hS dX9_isMade_39
    · replace hf := (if_neg c1).symm.trans hf
      refine lv_aload_n hx hb dX9_isMade_10 rfl (lv_at hl 0 rfl) ?_
      refine gM_keptNumber X hP fl_X9_28 dX9_isMade_11 ?_
      refine lv_iload_n hx hb dX9_isMade_14 rfl (lv_at hl 1 rfl) ?_
      obtain ⟨hn2, hf⟩ := ck_of hf
      refine w_iald X hP (c0 := 30) (i0 := 9) (show 0 < lenM 9 by decide) (n := 21) rfl hn2 dX9_isMade_15 ?_
      refine lv_aload_n hx hb dX9_isMade_16 rfl (lv_at hl 0 rfl) ?_
      refine gM_number X hP fl_X9_59 dX9_isMade_17 ?_
      refine lv_aload_n hx hb dX9_isMade_20 rfl (lv_at hl 0 rfl) ?_
      refine gM_depth X hP fl_X9_161 dX9_isMade_21 ?_
      refine lv_iconst (v := 1) hx hb dX9_isMade_24 (by decide) ?_
      refine lv_isub hx hb dX9_isMade_25 ?_
      obtain ⟨hn3, hf⟩ := ck_of hf
      refine w_iald X hP (c0 := 30) (i0 := 36) (show 0 < lenM 36 by decide) (n := 12) rfl hn3 dX9_isMade_26 ?_
      refine lv_icmp_ne (tgt := 32) hx hb dX9_isMade_27 (by decide) (fun c4 => ?_) (fun c4 => ?_)
      · replace hf := (if_neg c4).symm.trans hf
        obtain ⟨x5, ex⟩ : ∃ y : Int32, y = (a1 + (1 : Int32)) := ⟨_, rfl⟩
        replace hf := nm_of hf ex
        refine lv_iinc (v := x5) (lv' := [(1, .int x5), (0, .ref (la 9 0))]) hx hb dX9_isMade_32 hl (k := 1) rfl (by rw [ex]; rfl) (by decide) rfl (fun ls hl => ?_)
        clear ex
        refine lv_goto (tgt := 2) hx hb dX9_isMade_35 (by decide) ?_
        exact ih _ _ _ _ _  hf hP hS (lv_sub hl [1, 0] rfl)
      · replace hf := (if_pos c4).symm.trans hf
        refine lv_iconst (v := 1) hx hb dX9_isMade_30 (by decide) ?_
        obtain ⟨rfl, rfl⟩ := sp_2 hf
        exact w_zret X hr hlk (by decide) hP hS dX9_isMade_31
def fX9_isMade (N : Nat) (st : xSt) : Option (Int32 × xSt) := fX9_isMade_b2 N N (0 : Int32) st
set_option maxHeartbeats 4000000 in
set_option maxRecDepth 100000 in
theorem TX9_isMade (l : Launch) {D : va_G} {la : Nat → Nat → Nat} {cyI cyF cyM : ClassId} {t0 N : Nat} {st : xSt} {r : Int32} {st' : xSt} (hf : fX9_isMade N st = some (r, st')) : MetM D cyI cyF cyM la t0 l yX9_isMade (Cond.code yX9_isMade cX9_isMade 2 (some .boolean) :: xALL) rm_X9_isMade [.ref (la 9 0)] (some (.int r)) st st' := by
  refine MetW.intro (own := RX9) (by decide) (Nat.le_of_ble_eq_true rfl) rfl ?_
  intro p e s m below meth c X hr hlk hP ls hl
  have hx := X.1.1
  have hb := X.1.2.1
  have hS : va_S (xA VM la) s.heap s.heap [] := va_S.rf
  unfold fX9_isMade at hf
  replace hl : lv_has ls 2 [(0, .ref (la 9 0))] := hl
  refine lv_iconst (v := 0) hx hb dX9_isMade_0 (by decide) ?_
  refine lv_istore_n (lv' := [(1, .int (0 : Int32)), (0, .ref (la 9 0))]) hx hb dX9_isMade_1 rfl hl (by decide) rfl (fun ls hl => ?_)
  exact BX9_isMade_2 X hr hlk N _ _ _ _ _  hf hP hS (lv_sub hl [1, 0] rfl)
theorem KX9_isMade : xKv yX9_isMade cX9_isMade 2 (some .boolean) RX9 0 := ⟨cd_X9_isMade, im_X9_isMade, se_X9_isMade, in_X9, by decide +kernel⟩
abbrev rm_X9_ends : Room := { frames := 1, cells := 0, slots := 0, locals := 22 }
def fX9_ends (N : Nat) (a1 : Int32) (st : xSt) : Option xSt := if ((st.1 9 0 29) - (1 : Int32)) < 0 ∨ 12 ≤ (((st.1 9 0 29) - (1 : Int32))).toNatClampNeg then none else nm (st.1 30 35 (((st.1 9 0 29) - (1 : Int32))).toNatClampNeg) (fun x2 => nm (pI st 9 0 29 ((st.1 9 0 29) - (1 : Int32))) (fun st3 => if (st3.1 9 0 29) = (0 : Int32) then nm (pI st3 9 0 44 a1) (fun st7 => some st7) else Option.bind (fX9_becomes N x2 a1 st3) (fun st5 => some st5)))
set_option maxHeartbeats 4000000 in
set_option maxRecDepth 100000 in
theorem TX9_ends (l : Launch) {D : va_G} {la : Nat → Nat → Nat} {cyI cyF cyM : ClassId} {t0 N : Nat} {a1 : Int32} {st : xSt} {st' : xSt} (hf : fX9_ends N a1 st = some st') : MetM D cyI cyF cyM la t0 l yX9_ends (Cond.code yX9_ends cX9_ends 3 none :: xALL) rm_X9_ends [.ref (la 9 0), .int a1] none st st' := by
  refine MetW.intro (own := RX9) (by decide) (Nat.le_of_ble_eq_true rfl) rfl ?_
  intro p e s m below meth c X hr hlk hP ls hl
  have hx := X.1.1
  have hb := X.1.2.1
  have hS : va_S (xA VM la) s.heap s.heap [] := va_S.rf
  unfold fX9_ends at hf
  replace hl : lv_has ls 3 [(0, .ref (la 9 0)), (1, .int a1)] := hl
  refine lv_aload_n hx hb dX9_ends_0 rfl (lv_at hl 0 rfl) ?_
  refine gM_cell X hP fl_X9_56 dX9_ends_1 ?_
  refine lv_aload_n hx hb dX9_ends_4 rfl (lv_at hl 0 rfl) ?_
  refine gM_depth X hP fl_X9_161 dX9_ends_5 ?_
  refine lv_iconst (v := 1) hx hb dX9_ends_8 (by decide) ?_
  refine lv_isub hx hb dX9_ends_9 ?_
  obtain ⟨hn1, hf⟩ := ck_of hf
  refine w_iald X hP (c0 := 30) (i0 := 35) (show 0 < lenM 35 by decide) (n := 12) rfl hn1 dX9_ends_10 ?_
  refine lv_topi (fun x2 ex => ?_)
  replace hf := nm_of hf ex
  clear ex
  refine lv_istore_n (lv' := [(2, .int x2), (0, .ref (la 9 0)), (1, .int a1)]) hx hb dX9_ends_11 rfl hl (by decide) rfl (fun ls hl => ?_)
  refine lv_aload_n hx hb dX9_ends_12 rfl (lv_at hl 1 rfl) ?_
  refine lv_dup hx hb dX9_ends_13 rfl ?_
  refine gM_depth X hP fl_X9_161 dX9_ends_14 ?_
  refine lv_iconst (v := 1) hx hb dX9_ends_17 (by decide) ?_
  refine lv_isub hx hb dX9_ends_18 ?_
  refine pM_depth X hP hS fl_X9_161 dX9_ends_19 (fun H locs hP hS => ?_)
  obtain ⟨st3, hP, hf⟩ := nm_gen (P := fun z => HW D VM la (EMf cyI la) z H) hP hf
  refine lv_aload_n hx hb dX9_ends_22 rfl (lv_at hl 1 rfl) ?_
  refine gM_depth X hP fl_X9_161 dX9_ends_23 ?_
  refine lv_if_ne (tgt := 37) hx hb dX9_ends_26 (by decide) (fun c4 => ?_) (fun c4 => ?_)
  · replace hf := (if_neg c4).symm.trans hf
    refine lv_aload_n hx hb dX9_ends_37 rfl (lv_at hl 1 rfl) ?_
    refine lv_iload_n hx hb dX9_ends_38 rfl (lv_at hl 0 rfl) ?_
    refine lv_iload_n hx hb dX9_ends_39 rfl (lv_at hl 2 rfl) ?_
    obtain ⟨st5, hr6, hf⟩ := bd_of hf
    refine w_V0 X (TX9_becomes l hr6) hP hS rfl KX9_becomes ml_X9_183 ⟨rfl, rfl⟩ ⟨by decide, by decide⟩ (x_recv (E := fun c i => (EMf cyI la) (st3.1 c i) st3.2 c i) (c0 := 9) (i0 := 0) X.2.2.1 hP rfl (ci := 9) rfl rfl) rfl hl.1 (Nat.le_of_ble_eq_true rfl) dX9_ends_40 (fun H locs hP hS => ?_)
    obtain rfl := Option.some.inj hf
    exact w_vret X hr hlk hP hS dX9_ends_43
  · replace hf := (if_pos c4).symm.trans hf
    refine lv_aload_n hx hb dX9_ends_29 rfl (lv_at hl 1 rfl) ?_
    refine lv_iload_n hx hb dX9_ends_30 rfl (lv_at hl 2 rfl) ?_
    refine pM_result X hP hS fl_X9_186 dX9_ends_31 (fun H locs hP hS => ?_)
    obtain ⟨st7, hP, hf⟩ := nm_gen (P := fun z => HW D VM la (EMf cyI la) z H) hP hf
    refine lv_goto (tgt := 43) hx hb dX9_ends_34 (by decide) ?_
    obtain rfl := Option.some.inj hf
    exact w_vret X hr hlk hP hS dX9_ends_43
theorem KX9_ends : xKv yX9_ends cX9_ends 3 none RX9 1 := ⟨cd_X9_ends, im_X9_ends, se_X9_ends, in_X9, by decide +kernel⟩
abbrev rm_X9_throwing : Room := { frames := 1, cells := 0, slots := 0, locals := 21 }
def fX9_throwing_b44 (N : Nat) (a1 : Int32) (st : xSt) : Option xSt := if (st.1 9 0 29) = (0 : Int32) then Option.bind (fX9_fails N (6 : Int32) st) (fun st14 => nm (pI st14 9 0 43 a1) (fun st16 => some st16)) else nm (pI st 9 0 18 ((st.1 9 0 18) + (1 : Int32))) (fun st7 => nm (pI st7 30 2 7 a1) (fun st8 => if ((st8.1 9 0 29) - (1 : Int32)) < 0 ∨ 12 ≤ (((st8.1 9 0 29) - (1 : Int32))).toNatClampNeg then none else if ((st8.1 9 0 29) - (1 : Int32)) < 0 ∨ 12 ≤ (((st8.1 9 0 29) - (1 : Int32))).toNatClampNeg then none else nm ((st8.1 30 31 (((st8.1 9 0 29) - (1 : Int32))).toNatClampNeg) + (st8.1 30 34 (((st8.1 9 0 29) - (1 : Int32))).toNatClampNeg)) (fun x11 => if ((st8.1 9 0 29) - (1 : Int32)) < 0 ∨ 12 ≤ (((st8.1 9 0 29) - (1 : Int32))).toNatClampNeg then none else nm (pI st8 30 32 (((st8.1 9 0 29) - (1 : Int32))).toNatClampNeg x11) (fun st13 => some st13))))
set_option maxHeartbeats 4000000 in
set_option maxRecDepth 100000 in
theorem BX9_throwing_44 {p : Program} {l : Launch} {e : Env} {s : State} {m : MethodId} {args : Array Value} {below : List Frame} {meth : Method} {c : Code} {D : va_G} {la : Nat → Nat → Nat} {cyI cyF cyM : ClassId} {t0 N : Nat} {st' : xSt} (X : xCx D VM la cyI cyF cyM t0 p m c cX9_throwing 2 s args RX9) (hr : meth.sig.returnType = none) (hlk : meth.locks = false) : ∀ (a1 : Int32) (st : xSt) (H : Heap) (locs : List Loc) (ls : Array Slot), fX9_throwing_b44 N a1 st = some st' → HW D VM la (EMf cyI la) st H → va_S (xA VM la) s.heap H locs → lv_has ls 2 [(0, .ref (la 9 0)), (1, .int a1)] → W p l e rm_X9_throwing s m args below meth c H locs 0 0 (MQ below (xQc D VM la (EMf cyI la) none st') args s 0 0 (xA VM la)) (F0 m 44 ls []) := by
  have hx := X.1.1
  have hb := X.1.2.1
  intro a1 st H locs ls hf hP hS hl
  unfold fX9_throwing_b44 at hf
  refine lv_aload_n hx hb dX9_throwing_44 rfl (lv_at hl 0 rfl) ?_
  refine gM_depth X hP fl_X9_161 dX9_throwing_45 ?_
  refine lv_if_ne (tgt := 63) hx hb dX9_throwing_48 (by decide) (fun c6 => ?_) (fun c6 => ?_)
  · replace hf := (if_neg c6).symm.trans hf
    refine lv_aload_n hx hb dX9_throwing_63 rfl (lv_at hl 0 rfl) ?_
    refine lv_dup hx hb dX9_throwing_64 rfl ?_
    refine gM_caught X hP fl_X9_202 dX9_throwing_65 ?_
    refine lv_iconst (v := 1) hx hb dX9_throwing_68 (by decide) ?_
    refine lv_iadd hx hb dX9_throwing_69 ?_
    refine pM_caught X hP hS fl_X9_202 dX9_throwing_70 (fun H locs hP hS => ?_)
    obtain ⟨st7, hP, hf⟩ := nm_gen (P := fun z => HW D VM la (EMf cyI la) z H) hP hf
    refine lv_aload_n hx hb dX9_throwing_73 rfl (lv_at hl 0 rfl) ?_
    refine gM_globals X hP fl_X9_13 dX9_throwing_74 ?_
    refine lv_bipush (v := 7) hx hb dX9_throwing_77 (by decide) ?_
    refine lv_iload_n hx hb dX9_throwing_79 rfl (lv_at hl 1 rfl) ?_
    refine w_iastK X hP hS (c0 := 30) (i0 := 2) (show 0 < lenM 2 by decide) (n := 8) (fun _ => rfl) 7 (by decide) (show ¬ ((7 : Int32) < 0 ∨ 8 ≤ ((7 : Int32)).toNatClampNeg) by decide) dX9_throwing_80 (fun H locs hP hS => ?_)
    obtain ⟨st8, hP, hf⟩ := nm_gen (P := fun z => HW D VM la (EMf cyI la) z H) hP hf
    refine lv_aload_n hx hb dX9_throwing_81 rfl (lv_at hl 0 rfl) ?_
    refine gM_at X hP fl_X9_47 dX9_throwing_82 ?_
    refine lv_aload_n hx hb dX9_throwing_85 rfl (lv_at hl 0 rfl) ?_
    refine gM_depth X hP fl_X9_161 dX9_throwing_86 ?_
    refine lv_iconst (v := 1) hx hb dX9_throwing_89 (by decide) ?_
    refine lv_isub hx hb dX9_throwing_90 ?_
    refine lv_aload_n hx hb dX9_throwing_91 rfl (lv_at hl 0 rfl) ?_
    refine gM_address X hP fl_X9_44 dX9_throwing_92 ?_
    refine lv_aload_n hx hb dX9_throwing_95 rfl (lv_at hl 0 rfl) ?_
    refine gM_depth X hP fl_X9_161 dX9_throwing_96 ?_
    refine lv_iconst (v := 1) hx hb dX9_throwing_99 (by decide) ?_
    refine lv_isub hx hb dX9_throwing_100 ?_
    obtain ⟨hn9, hf⟩ := ck_of hf
    refine w_iald X hP (c0 := 30) (i0 := 31) (show 0 < lenM 31 by decide) (n := 12) rfl hn9 dX9_throwing_101 ?_
    refine lv_aload_n hx hb dX9_throwing_102 rfl (lv_at hl 0 rfl) ?_
    refine gM_catches X hP fl_X9_53 dX9_throwing_103 ?_
    refine lv_aload_n hx hb dX9_throwing_106 rfl (lv_at hl 0 rfl) ?_
    refine gM_depth X hP fl_X9_161 dX9_throwing_107 ?_
    refine lv_iconst (v := 1) hx hb dX9_throwing_110 (by decide) ?_
    refine lv_isub hx hb dX9_throwing_111 ?_
    obtain ⟨hn10, hf⟩ := ck_of hf
    refine w_iald X hP (c0 := 30) (i0 := 34) (show 0 < lenM 34 by decide) (n := 12) rfl hn10 dX9_throwing_112 ?_
    refine lv_iadd hx hb dX9_throwing_113 ?_
    refine lv_topi (fun x11 ex => ?_)
    replace hf := nm_of hf ex
    clear ex
    obtain ⟨hn12, hf⟩ := ck_of hf
    refine w_iast X hP hS (c0 := 30) (i0 := 32) (show 0 < lenM 32 by decide) (n := 12) (fun _ => rfl) hn12 dX9_throwing_114 (fun H locs hP hS => ?_)
    obtain ⟨st13, hP, hf⟩ := nm_gen (P := fun z => HW D VM la (EMf cyI la) z H) hP hf
    obtain rfl := Option.some.inj hf
    exact w_vret X hr hlk hP hS dX9_throwing_115
  · replace hf := (if_pos c6).symm.trans hf
    refine lv_aload_n hx hb dX9_throwing_51 rfl (lv_at hl 0 rfl) ?_
    refine lv_bipush (v := 6) hx hb dX9_throwing_52 (by decide) ?_
    obtain ⟨st14, hr15, hf⟩ := bd_of hf
    refine w_V0 X (TX9_fails l hr15) hP hS rfl KX9_fails ml_X9_167 ⟨rfl, rfl⟩ ⟨by decide, by decide⟩ (x_recv (E := fun c i => (EMf cyI la) (st.1 c i) st.2 c i) (c0 := 9) (i0 := 0) X.2.2.1 hP rfl (ci := 9) rfl rfl) rfl hl.1 (Nat.le_of_ble_eq_true rfl) dX9_throwing_54 (fun H locs hP hS => ?_)
    refine lv_aload_n hx hb dX9_throwing_57 rfl (lv_at hl 0 rfl) ?_
    refine lv_iload_n hx hb dX9_throwing_58 rfl (lv_at hl 1 rfl) ?_
    refine pM_faultNumber X hP hS fl_X9_199 dX9_throwing_59 (fun H locs hP hS => ?_)
    obtain ⟨st16, hP, hf⟩ := nm_gen (P := fun z => HW D VM la (EMf cyI la) z H) hP hf
    obtain rfl := Option.some.inj hf
    exact w_vret X hr hlk hP hS dX9_throwing_62
def fX9_throwing_b10 (N : Nat) : Nat → Int32 → xSt → Option xSt
  | 0, _, _ => none
  | n + 1, a1, st => if (st.1 9 0 29) ≤ (0 : Int32) then fX9_throwing_b44 N a1 st else if ((st.1 9 0 29) - (1 : Int32)) < 0 ∨ 12 ≤ (((st.1 9 0 29) - (1 : Int32))).toNatClampNeg then none else if (st.1 30 34 (((st.1 9 0 29) - (1 : Int32))).toNatClampNeg) = (0 : Int32) then nm (pI st 9 0 29 ((st.1 9 0 29) - (1 : Int32))) (fun st5 => fX9_throwing_b10 N n a1 st5) else fX9_throwing_b44 N a1 st
set_option maxHeartbeats 4000000 in
set_option maxRecDepth 100000 in
theorem BX9_throwing_10 {p : Program} {l : Launch} {e : Env} {s : State} {m : MethodId} {args : Array Value} {below : List Frame} {meth : Method} {c : Code} {D : va_G} {la : Nat → Nat → Nat} {cyI cyF cyM : ClassId} {t0 N : Nat} {st' : xSt} (X : xCx D VM la cyI cyF cyM t0 p m c cX9_throwing 2 s args RX9) (hr : meth.sig.returnType = none) (hlk : meth.locks = false) : ∀ n : Nat, ∀ (a1 : Int32) (st : xSt) (H : Heap) (locs : List Loc) (ls : Array Slot), fX9_throwing_b10 N n a1 st = some st' → HW D VM la (EMf cyI la) st H → va_S (xA VM la) s.heap H locs → lv_has ls 2 [(0, .ref (la 9 0)), (1, .int a1)] → W p l e rm_X9_throwing s m args below meth c H locs 0 0 (MQ below (xQc D VM la (EMf cyI la) none st') args s 0 0 (xA VM la)) (F0 m 10 ls []) := by
  have hx := X.1.1
  have hb := X.1.2.1
  intro n
  induction n with
  | zero =>
    intro a1 st H locs ls hf hP hS hl
    rw [fX9_throwing_b10] at hf
    cases hf
  | succ n ih =>
    intro a1 st H locs ls hf hP hS hl
    rw [fX9_throwing_b10] at hf
    refine lv_aload_n hx hb dX9_throwing_10 rfl (lv_at hl 0 rfl) ?_
    refine gM_depth X hP fl_X9_161 dX9_throwing_11 ?_
    refine lv_if_le (tgt := 44) hx hb dX9_throwing_14 (by decide) (fun c2 => ?_) (fun c2 => ?_)
    · replace hf := (if_pos c2).symm.trans hf
      exact BX9_throwing_44 X hr hlk _ _ _ _ _  hf hP hS (lv_sub hl [0, 1] rfl)
    · replace hf := (if_neg c2).symm.trans hf
      refine lv_aload_n hx hb dX9_throwing_17 rfl (lv_at hl 0 rfl) ?_
      refine gM_catches X hP fl_X9_53 dX9_throwing_18 ?_
      refine lv_aload_n hx hb dX9_throwing_21 rfl (lv_at hl 0 rfl) ?_
      refine gM_depth X hP fl_X9_161 dX9_throwing_22 ?_
      refine lv_iconst (v := 1) hx hb dX9_throwing_25 (by decide) ?_
      refine lv_isub hx hb dX9_throwing_26 ?_
      obtain ⟨hn3, hf⟩ := ck_of hf
      refine w_iald X hP (c0 := 30) (i0 := 34) (show 0 < lenM 34 by decide) (n := 12) rfl hn3 dX9_throwing_27 ?_
      refine lv_if_ne (tgt := 44) hx hb dX9_throwing_28 (by decide) (fun c4 => ?_) (fun c4 => ?_)
      · replace hf := (if_neg c4).symm.trans hf
        exact BX9_throwing_44 X hr hlk _ _ _ _ _  hf hP hS (lv_sub hl [0, 1] rfl)
      · replace hf := (if_pos c4).symm.trans hf
        refine lv_aload_n hx hb dX9_throwing_31 rfl (lv_at hl 0 rfl) ?_
        refine lv_dup hx hb dX9_throwing_32 rfl ?_
        refine gM_depth X hP fl_X9_161 dX9_throwing_33 ?_
        refine lv_iconst (v := 1) hx hb dX9_throwing_36 (by decide) ?_
        refine lv_isub hx hb dX9_throwing_37 ?_
        refine pM_depth X hP hS fl_X9_161 dX9_throwing_38 (fun H locs hP hS => ?_)
        obtain ⟨st5, hP, hf⟩ := nm_gen (P := fun z => HW D VM la (EMf cyI la) z H) hP hf
        refine lv_goto (tgt := 10) hx hb dX9_throwing_41 (by decide) ?_
        exact ih _ _ _ _ _  hf hP hS (lv_sub hl [0, 1] rfl)
def fX9_throwing (N : Nat) (a1 : Int32) (st : xSt) : Option xSt := nm (pI st 9 0 29 ((st.1 9 0 29) - (1 : Int32))) (fun st1 => fX9_throwing_b10 N N a1 st1)
set_option maxHeartbeats 4000000 in
set_option maxRecDepth 100000 in
theorem TX9_throwing (l : Launch) {D : va_G} {la : Nat → Nat → Nat} {cyI cyF cyM : ClassId} {t0 N : Nat} {a1 : Int32} {st : xSt} {st' : xSt} (hf : fX9_throwing N a1 st = some st') : MetM D cyI cyF cyM la t0 l yX9_throwing (Cond.code yX9_throwing cX9_throwing 2 none :: xALL) rm_X9_throwing [.ref (la 9 0), .int a1] none st st' := by
  refine MetW.intro (own := RX9) (by decide) (Nat.le_of_ble_eq_true rfl) rfl ?_
  intro p e s m below meth c X hr hlk hP ls hl
  have hx := X.1.1
  have hb := X.1.2.1
  have hS : va_S (xA VM la) s.heap s.heap [] := va_S.rf
  unfold fX9_throwing at hf
  replace hl : lv_has ls 2 [(0, .ref (la 9 0)), (1, .int a1)] := hl
  refine lv_aload_n hx hb dX9_throwing_0 rfl (lv_at hl 0 rfl) ?_
  refine lv_dup hx hb dX9_throwing_1 rfl ?_
  refine gM_depth X hP fl_X9_161 dX9_throwing_2 ?_
  refine lv_iconst (v := 1) hx hb dX9_throwing_5 (by decide) ?_
  refine lv_isub hx hb dX9_throwing_6 ?_
  refine pM_depth X hP hS fl_X9_161 dX9_throwing_7 (fun H locs hP hS => ?_)
  obtain ⟨st1, hP, hf⟩ := nm_gen (P := fun z => HW D VM la (EMf cyI la) z H) hP hf
  exact BX9_throwing_10 X hr hlk N _ _ _ _ _  hf hP hS (lv_sub hl [0, 1] rfl)
theorem KX9_throwing : xKv yX9_throwing cX9_throwing 2 none RX9 1 := ⟨cd_X9_throwing, im_X9_throwing, se_X9_throwing, in_X9, by decide +kernel⟩
