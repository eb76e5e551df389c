/-! MadeCalls.poke, peek, global: they return, or they throw -/
def xTS (V : Nat → Nat → Prop) (la : Nat → Nat → Nat) (sa sb : Nat) (U : State) (H : Heap) : Prop := xThr U ∧ vx_Zq Bundle.tN "UNASSIGNED_STACK" Bundle.steD (xA V la) U H ∧ vx_Zq Bundle.tN "SUPPRESSED_SENTINEL" Bundle.listD (xA V la) U H ∧ vk_R RX8 65 "no such byte" sa U ∧ vk_R RX8 76 "no such global" sb U
theorem xTS.moved {V : Nat → Nat → Prop} {la : Nat → Nat → Nat} {sa sb : Nat} {s U : State} {H H1 : Heap} (h : xTS V la sa sb s H) (hW : s.WarmedH U.vm) (hq : ∀ a : Nat, a < H.size → ¬ xA V la a → H1[a]? = H[a]?) : xTS V la sa sb U H1 :=
  ⟨h.1.moved hW, (vx_Zq.moved hW.alike h.2.1).kept hq, (vx_Zq.moved hW.alike h.2.2.1).kept hq, vk_R.warm hW h.2.2.2.1, vk_R.warm hW h.2.2.2.2⟩
theorem xTS.same {V : Nat → Nat → Prop} {la : Nat → Nat → Nat} {sa sb : Nat} {s U : State} {H : Heap} (h : xTS V la sa sb s H) (hv : s.vm = U.vm) : xTS V la sa sb U H := by
  have ha : s.vm.Alike U.vm := by rw [hv]; exact Vm.Alike.refl _
  exact ⟨h.1.same hv, vx_Zq.moved ha h.2.1, vx_Zq.moved ha h.2.2.1, vk_R.same hv.symm h.2.2.2.1, vk_R.same hv.symm h.2.2.2.2⟩
def xPreT (D : va_G) (V : Nat → Nat → Prop) (la : Nat → Nat → Nat) (Ef : xEf) (cyI cyF cyM : ClassId) (t0 sa sb : Nat) (st : xSt) (U : State) : Prop := xPre D V la Ef cyI cyF cyM t0 st U ∧ xTS V la sa sb U U.heap
def xQx (D : va_G) (V : Nat → Nat → Prop) (la : Nat → Nat → Nat) (Ef : xEf) (ok : Prop) (v : Int32) (st' : xSt) : Array Value → State → Outcome → State → Prop := fun a s0 o t => ok ∧ xQc D V la Ef (some (.int v)) st' a s0 o t
def xXC (D : va_G) (V : Nat → Nat → Prop) (la : Nat → Nat → Nat) (Ef : xEf) (ok : Prop) (st : xSt) : String → State → State → Prop := fun E s0 t => E = xAI ∧ ¬ ok ∧ HW D V la Ef st t.heap ∧ va_F (xA V la) s0 t
def MetX (D : va_G) (V : Nat → Nat → Prop) (la : Nat → Nat → Nat) (Ef : xEf) (cyI cyF cyM : ClassId) (t0 sa sb : Nat) (l : Launch) (y : MethodName) (ws : List Cond) (rm : Room) (av : List Value) (ok : Prop) (v : Int32) (st st' : xSt) : Prop :=
  vx_Met l y ws rm (va_Pc av (xPreT D V la Ef cyI cyF cyM t0 sa sb st)) (xQx D V la Ef ok v st') (xXC D V la Ef ok st) 1 6 (xA V la)
abbrev rm_X8_thr : Room := { frames := 8, cells := 1, slots := 6, locals := 400 }
theorem ix_in {x : Int32} {n : Nat} (h0 : ¬ x < 0) (h1 : ¬ nI n ≤ x) (hn : n < 2 ^ 31) : ¬ (x < 0 ∨ n ≤ x.toNatClampNeg) := by
  rcases pk_ix x hn with h | h | ⟨j, hj, rfl⟩
  · exact absurd h h0
  · exact absurd h h1
  · exact vp_in_nI hj hn
section XT
variable {p : Program} {l : Launch} {e : Env} {R : Room} {s : State} {m : MethodId} {args : Array Value} {below : List Frame} {meth : Method} {c : Code} {H : Heap} {locs : List Loc}
variable {cc : ByteArray} {nL pc : Nat} {ls : Array Slot} {rest : List Value} {D : va_G} {V : Nat → Nat → Prop} {la : Nat → Nat → Nat} {Ef : xEf} {cyI cyF cyM : ClassId} {t0 sa sb : Nat} {own : String} {st st' : xSt} {ok : Prop}
theorem MetX.intro {y : MethodName} {ret : Option FieldType} {rm : Room} {av : List Value} {v : Int32} (hy : plainName y.cls = true) (hl : (lg_sl av).length ≤ nL) (hown : y.cls = own)
    (body : ∀ (p : Program) (e : Env) (s : State) (m : MethodId) (below : List Frame) (meth : Method) (c : Code), xCx D V la cyI cyF cyM t0 p m c cc nL s av.toArray own → xTS V la sa sb s s.heap → (∀ x ∈ c.exceptionTable.toList, False) → meth.sig.returnType = ret → meth.locks = false → HW D V la Ef st s.heap → ∀ ls : Array Slot, lv_has ls nL (lv_args 0 av) →
      W p l e rm s m av.toArray below meth c s.heap [] 0 0 (vx_MQ below (xQx D V la Ef ok v st') (xXC D V la Ef ok st) av.toArray s 1 6 (xA V la)) (F0 m 0 ls [])) : MetX D V la Ef cyI cyF cyM t0 sa sb l y (Cond.code y cc nL ret :: xALL) rm av ok v st st' := by
  refine vx_ofW (cc := cc) (maxL := nL) (ret := ret) hy rfl ?_
  intro p e s m args below meth c s₁ B hml hnt hv
  obtain ⟨rfl, ⟨hP, hZ⟩, hT⟩ := hv
  have hts := atoms_spec (ws := Cond.code y cc nL ret :: xALL) B.pre
  have hfc : s.vm.findClass own = some m.cls := by rw [← hown]; exact findClass_of_methodNamed B.named
  have hl2 := lv_entry av (n := nL) hl
  rw [lg_entry_eq]
  exact body p e s m below meth c ⟨⟨B.exec, B.bytes, hml, hfc, fun w hw => hts w (List.mem_cons_of_mem _ hw)⟩, hZ⟩ hT hnt B.returns B.notSynchronized hP _ hl2
theorem w_iretX {v : Int32} (X : xCx D V la cyI cyF cyM t0 p m c cc nL s args own) (hr : meth.sig.returnType = some .int) (hlk : meth.locks = false) (hok : ok) (hP : HW D V la Ef st' H) (hS : va_S (xA V la) s.heap H locs) (hdg : decode cc pc = .ok (.ireturn, 1)) : W p l e R s m args below meth c H locs 0 0 (vx_MQ below (xQx D V la Ef ok v st') (xXC D V la Ef ok st) args s 1 6 (xA V la)) (F0 m pc ls [.int v]) :=
  vx_ret (W.widen (k := 1) (n := 6) (by decide) (by decide) (W.iret X.1.1 X.1.2.1 hr (fun t ht _ => ⟨hok, rfl, by rw [ht]; exact hP, hS.F ht⟩) hS.2.2 hdg hlk))
theorem w_throwX {v : Int32} {is sx : Nat} {text : String} (hlt : l.stackTraces = false) (X : xCx D V la cyI cyF cyM t0 p m c cc nL s args RX8) (hT : xTS V la sa sb s s.heap) (hstr : vk_R RX8 is text sx s) (hnt : ∀ x ∈ c.exceptionTable.toList, False) (hlk : meth.locks = false) (hok : ¬ ok) (hP : HW D V la Ef st H) (hS : va_S (xA V la) s.heap H locs) (hsz : ls.size = nL)
    (d0 : decode cc pc = .ok (.new 63, 3)) (d3 : decode cc (pc + 3) = .ok (.dup, 1)) (d4 : decode cc (pc + 4) = .ok (.ldc is, 2)) (d6 : decode cc (pc + 6) = .ok (.invokespecial 67, 3)) (d9 : decode cc (pc + 9) = .ok (.athrow, 1)) :
    W p l e rm_X8_thr s m args below meth c H locs 0 0 (vx_MQ below (xQx D V la Ef ok v st') (xXC D V la Ef ok st) args s 1 6 (xA V la)) (F0 m pc ls []) := by
  refine vx_throwS (names := xNs) (cls := xAI) X.1.1 X.1.2.1 hlt X.1.2.2.2.1 (by decide) (by decide) (X.1.2.2.2.2 _ cl_X8_63) (X.1.2.2.2.2 _ in_Jx00060) hstr (hT.1.at X.1.2.2.2.2) (fun w hw => List.all_eq_true.mp at_ot w hw) hT.2.1 hT.2.2.1 hS (hsz.trans X.1.2.2.1.symm) d0 d3 d4 d6 d9 (fun x hx => (hnt x hx).elim) (by decide) (by decide) (by decide) (by decide) hlk ?_ hS.2.2 (by decide) (by decide)
  intro t ha hz hq
  refine ⟨rfl, hok, hP.kept (fun c i hV => hq _ (hP c i hV).lt), Nat.le_trans hS.1 hz, fun q h1 h2 => ?_⟩
  rw [hq q (Nat.lt_of_lt_of_le h1 hS.1)]
  exact hS.2.1 q h1 h2
end XT
set_option maxHeartbeats 4000000 in
set_option maxRecDepth 100000 in
theorem TX8_peek (l : Launch) (hlt : l.stackTraces = false) {D : va_G} {la : Nat → Nat → Nat} {cyI cyF cyM : ClassId} {t0 sa sb mo : Nat} {a1 : Int32} {st : xSt} :
    MetX D (VC mo) la (ECf cyI cyF cyM mo la) cyI cyF cyM t0 sa sb l yX8_peek (Cond.code yX8_peek cX8_peek 2 (some .int) :: xALL) rm_X8_thr [.ref (la 8 0), .int a1] (¬ a1 < 0 ∧ ¬ (1024 : Int32) ≤ a1) (st.1 20 3 a1.toNatClampNeg) st st := by
  refine MetX.intro (own := RX8) (by decide) (Nat.le_of_ble_eq_true rfl) rfl ?_
  intro p e s m below meth c X hT hnt hr hlk hP ls hl
  have hx := X.1.1
  have hb := X.1.2.1
  have hS : va_S (xA (VC mo) la) s.heap s.heap [] := va_S.rf
  replace hl : lv_has ls 2 [(0, .ref (la 8 0)), (1, .int a1)] := hl
  refine lv_iload_n hx hb dX8_peek_0 rfl (lv_at hl 1 rfl) ?_
  obtain ⟨z, hz, hzk⟩ : ∃ z : Int32, fX8_isPlace 0 mo a1 st = some (z, st) ∧ (z = 0 ↔ ¬ (¬ a1 < 0 ∧ ¬ (1024 : Int32) ≤ a1)) := by
    unfold fX8_isPlace
    by_cases h1 : a1 < 0
    · exact ⟨0, by rw [if_pos h1], by simp [h1]⟩
    · by_cases h2 : (1024 : Int32) ≤ a1
      · exact ⟨0, by rw [if_neg h1, if_pos h2], by simp [h1, h2]⟩
      · exact ⟨1, by rw [if_neg h1, if_neg h2], by simp [h1, h2]⟩
  refine w_S1 X (TX8_isPlace l hz) hP hS rfl KX8_isPlace ml_X8_59 ⟨rfl, rfl⟩ ⟨by decide, by decide⟩ rfl hl.1 (Nat.le_of_ble_eq_true rfl) dX8_peek_1 (fun H locs hP hS => ?_)
  refine lv_if_ne (tgt := 17) hx hb dX8_peek_4 (by decide) (fun c1 => ?_) (fun c1 => ?_)
  · have hok : ¬ a1 < 0 ∧ ¬ (1024 : Int32) ≤ a1 := Decidable.not_not.mp (fun q => c1 (hzk.mpr q))
    refine lv_aload_n hx hb dX8_peek_17 rfl (lv_at hl 0 rfl) ?_
    refine gC_MadeCalls_memory X hP fl_X8_42 dX8_peek_18 ?_
    refine gC_Memory_bytes X hP fl_X8_70 dX8_peek_21 ?_
    refine lv_iload_n hx hb dX8_peek_24 rfl (lv_at hl 1 rfl) ?_
    refine w_iald X hP (c0 := 20) (i0 := 3) (show 3 < 7 by decide) (n := 1024) rfl (ix_in hok.1 hok.2 (by decide)) dX8_peek_25 ?_
    exact w_iretX X hr hlk hok hP hS dX8_peek_26
  · have hok : ¬ (¬ a1 < 0 ∧ ¬ (1024 : Int32) ≤ a1) := hzk.mp c1
    exact w_throwX hlt X hT hT.2.2.2.1 hnt hlk hok hP hS hl.1 dX8_peek_7 dX8_peek_10 dX8_peek_11 dX8_peek_13 dX8_peek_16
set_option maxHeartbeats 4000000 in
set_option maxRecDepth 100000 in
theorem TX8_poke (l : Launch) (hlt : l.stackTraces = false) {D : va_G} {la : Nat → Nat → Nat} {cyI cyF cyM : ClassId} {t0 sa sb mo N : Nat} {a1 a2 dr : Int32} {st st' : xSt} (hf : (¬ a1 < 0 ∧ ¬ (1024 : Int32) ≤ a1) → fX3_change N mo a1 a2 st = some (dr, st')) :
    MetX D (VC mo) la (ECf cyI cyF cyM mo la) cyI cyF cyM t0 sa sb l yX8_poke (Cond.code yX8_poke cX8_poke 4 (some .int) :: xALL) rm_X8_thr [.ref (la 8 0), .int a1, .int a2] (¬ a1 < 0 ∧ ¬ (1024 : Int32) ≤ a1) (st.1 20 3 a1.toNatClampNeg) st st' := by
  refine MetX.intro (own := RX8) (by decide) (Nat.le_of_ble_eq_true rfl) rfl ?_
  intro p e s m below meth c X hT hnt hr hlk hP ls hl
  have hx := X.1.1
  have hb := X.1.2.1
  have hS : va_S (xA (VC mo) la) s.heap s.heap [] := va_S.rf
  replace hl : lv_has ls 4 [(0, .ref (la 8 0)), (1, .int a1), (2, .int a2)] := hl
  refine lv_iload_n hx hb dX8_poke_0 rfl (lv_at hl 1 rfl) ?_
  obtain ⟨z, hz, hzk⟩ : ∃ z : Int32, fX8_isPlace 0 mo a1 st = some (z, st) ∧ (z = 0 ↔ ¬ (¬ a1 < 0 ∧ ¬ (1024 : Int32) ≤ a1)) := by
    unfold fX8_isPlace
    by_cases h1 : a1 < 0
    · exact ⟨0, by rw [if_pos h1], by simp [h1]⟩
    · by_cases h2 : (1024 : Int32) ≤ a1
      · exact ⟨0, by rw [if_neg h1, if_pos h2], by simp [h1, h2]⟩
      · exact ⟨1, by rw [if_neg h1, if_neg h2], by simp [h1, h2]⟩
  refine w_S1 X (TX8_isPlace l hz) hP hS rfl KX8_isPlace ml_X8_59 ⟨rfl, rfl⟩ ⟨by decide, by decide⟩ rfl hl.1 (Nat.le_of_ble_eq_true rfl) dX8_poke_1 (fun H locs hP hS => ?_)
  refine lv_if_ne (tgt := 17) hx hb dX8_poke_4 (by decide) (fun c1 => ?_) (fun c1 => ?_)
  · have hok : ¬ a1 < 0 ∧ ¬ (1024 : Int32) ≤ a1 := Decidable.not_not.mp (fun q => c1 (hzk.mpr q))
    refine lv_aload_n hx hb dX8_poke_17 rfl (lv_at hl 0 rfl) ?_
    refine gC_MadeCalls_memory X hP fl_X8_42 dX8_poke_18 ?_
    refine gC_Memory_bytes X hP fl_X8_70 dX8_poke_21 ?_
    refine lv_iload_n hx hb dX8_poke_24 rfl (lv_at hl 1 rfl) ?_
    refine w_iald X hP (c0 := 20) (i0 := 3) (show 3 < 7 by decide) (n := 1024) rfl (ix_in hok.1 hok.2 (by decide)) dX8_poke_25 ?_
    refine lv_istore_n (lv' := [(3, .int (st.1 20 3 a1.toNatClampNeg)), (0, .ref (la 8 0)), (1, .int a1), (2, .int a2)]) hx hb dX8_poke_26 rfl hl (by decide) rfl (fun ls hl => ?_)
    refine lv_aload_n hx hb dX8_poke_27 rfl (lv_at hl 1 rfl) ?_
    refine gC_MadeCalls_memory X hP fl_X8_42 dX8_poke_28 ?_
    refine lv_iload_n hx hb dX8_poke_31 rfl (lv_at hl 2 rfl) ?_
    refine lv_iload_n hx hb dX8_poke_32 rfl (lv_at hl 3 rfl) ?_
    refine w_V1 X (TX3_change l (hf hok)) hP hS rfl KX3_change ml_X8_73 ⟨rfl, rfl⟩ ⟨by decide, by decide⟩ (x_recv (E := fun c i => (ECf cyI cyF cyM mo la) (st.1 c i) st.2 c i) (c0 := 4) (i0 := 0) X.2.2.1 hP rfl (ci := 4) rfl rfl) rfl hl.1 (Nat.le_of_ble_eq_true rfl) dX8_poke_33 (fun H locs hP hS => ?_)
    refine lv_pop hx hb dX8_poke_36 rfl ?_
    refine lv_iload_n hx hb dX8_poke_37 rfl (lv_at hl 0 rfl) ?_
    exact w_iretX X hr hlk hok hP hS dX8_poke_38
  · have hok : ¬ (¬ a1 < 0 ∧ ¬ (1024 : Int32) ≤ a1) := hzk.mp c1
    exact w_throwX hlt X hT hT.2.2.2.1 hnt hlk hok hP hS hl.1 dX8_poke_7 dX8_poke_10 dX8_poke_11 dX8_poke_13 dX8_poke_16
set_option maxHeartbeats 4000000 in
set_option maxRecDepth 100000 in
theorem TX8_global (l : Launch) (hlt : l.stackTraces = false) {D : va_G} {la : Nat → Nat → Nat} {cyI cyF cyM : ClassId} {t0 sa sb mo : Nat} {a1 a2 : Int32} {st : xSt} :
    MetX D (VC mo) la (ECf cyI cyF cyM mo la) cyI cyF cyM t0 sa sb l yX8_global (Cond.code yX8_global cX8_global 4 (some .int) :: xALL) rm_X8_thr [.ref (la 8 0), .int a1, .int a2] (¬ a1 < 0 ∧ ¬ (8 : Int32) ≤ a1) (st.1 20 1 a1.toNatClampNeg) st (pI st 20 1 a1.toNatClampNeg a2) := by
  refine MetX.intro (own := RX8) (by decide) (Nat.le_of_ble_eq_true rfl) rfl ?_
  intro p e s m below meth c X hT hnt hr hlk hP ls hl
  have hx := X.1.1
  have hb := X.1.2.1
  have hS : va_S (xA (VC mo) la) s.heap s.heap [] := va_S.rf
  replace hl : lv_has ls 4 [(0, .ref (la 8 0)), (1, .int a1), (2, .int a2)] := hl
  have thr : ¬ (¬ a1 < 0 ∧ ¬ (8 : Int32) ≤ a1) → W p l e rm_X8_thr s m [Value.ref (la 8 0), .int a1, .int a2].toArray below meth c s.heap [] 0 0 (vx_MQ below (xQx D (VC mo) la (ECf cyI cyF cyM mo la) (¬ a1 < 0 ∧ ¬ (8 : Int32) ≤ a1) (st.1 20 1 a1.toNatClampNeg) (pI st 20 1 a1.toNatClampNeg a2)) (xXC D (VC mo) la (ECf cyI cyF cyM mo la) (¬ a1 < 0 ∧ ¬ (8 : Int32) ≤ a1) st) [Value.ref (la 8 0), .int a1, .int a2].toArray s 1 6 (xA (VC mo) la)) (F0 m 10 ls []) := fun hok =>
    w_throwX hlt X hT hT.2.2.2.2 hnt hlk hok hP hS hl.1 dX8_global_10 dX8_global_13 dX8_global_14 dX8_global_16 dX8_global_19
  refine lv_iload_n hx hb dX8_global_0 rfl (lv_at hl 1 rfl) ?_
  refine lv_if_lt (tgt := 10) hx hb dX8_global_1 (by decide) (fun c1 => ?_) (fun c1 => ?_)
  · exact thr (fun q => q.1 c1)
  · refine lv_iload_n hx hb dX8_global_4 rfl (lv_at hl 1 rfl) ?_
    refine lv_bipush (v := 8) hx hb dX8_global_5 (by decide) ?_
    refine lv_icmp_lt (tgt := 20) hx hb dX8_global_7 (by decide) (fun c2 => ?_) (fun c2 => ?_)
    · have hok : ¬ a1 < 0 ∧ ¬ (8 : Int32) ≤ a1 := ⟨c1, Int32.not_le.mpr c2⟩
      refine lv_aload_n hx hb dX8_global_20 rfl (lv_at hl 0 rfl) ?_
      refine gC_MadeCalls_globals X hP fl_X8_13 dX8_global_21 ?_
      refine lv_iload_n hx hb dX8_global_24 rfl (lv_at hl 1 rfl) ?_
      refine w_iald X hP (c0 := 20) (i0 := 1) (show 1 < 7 by decide) (n := 8) rfl (ix_in hok.1 hok.2 (by decide)) dX8_global_25 ?_
      refine lv_istore_n (lv' := [(3, .int (st.1 20 1 a1.toNatClampNeg)), (0, .ref (la 8 0)), (1, .int a1), (2, .int a2)]) hx hb dX8_global_26 rfl hl (by decide) rfl (fun ls hl => ?_)
      refine lv_aload_n hx hb dX8_global_27 rfl (lv_at hl 1 rfl) ?_
      refine gC_MadeCalls_globals X hP fl_X8_13 dX8_global_28 ?_
      refine lv_iload_n hx hb dX8_global_31 rfl (lv_at hl 2 rfl) ?_
      refine lv_iload_n hx hb dX8_global_32 rfl (lv_at hl 3 rfl) ?_
      refine w_iast X hP hS (c0 := 20) (i0 := 1) (show 1 < 7 by decide) (n := 8) (fun _ => rfl) (ix_in hok.1 hok.2 (by decide)) dX8_global_33 (fun H locs hP hS => ?_)
      refine lv_iload_n hx hb dX8_global_34 rfl (lv_at hl 0 rfl) ?_
      exact w_iretX X hr hlk hok hP hS dX8_global_35
    · exact thr (fun q => q.2 (Int32.not_lt.mp c2))
