/-! the law's helpers: poke, peek, global (they catch), and cell -/
def oAt (cyJ : ClassId) (ao : Nat) (x : Int64) (H : Heap) : Prop := H[ao]? = some (vp_cell cyJ (1, .inr (.inl (fun _ => x))))
def hPre (D : va_G) (V : Nat → Nat → Prop) (la : Nat → Nat → Nat) (Ef : xEf) (cyI cyF cyM cyJ : ClassId) (t0 sa sb ao : Nat) (st : xSt) (U : State) : Prop := xPreT D V la Ef cyI cyF cyM t0 sa sb st U ∧ (∃ x, oAt cyJ ao x U.heap) ∧ ArrOfT U cyJ .long ∧ ¬ xA V la ao
def hQ (D : va_G) (V : Nat → Nat → Prop) (la : Nat → Nat → Nat) (Ef : xEf) (cyJ : ClassId) (ao : Nat) (ok : Prop) (v : Int32) (st st' : xSt) : Array Value → State → Outcome → State → Prop := fun _ s0 o t =>
  (ok → o = .returned (some (.int 0)) ∧ HW D V la Ef st' t.heap ∧ oAt cyJ ao v.toInt64 t.heap) ∧ (¬ ok → o = .returned (some (.int 1)) ∧ HW D V la Ef st t.heap ∧ ∃ x, oAt cyJ ao x t.heap) ∧ va_F (fun q => xA V la q ∨ q = ao) s0 t
def MetH (D : va_G) (V : Nat → Nat → Prop) (la : Nat → Nat → Nat) (Ef : xEf) (cyI cyF cyM cyJ : ClassId) (t0 sa sb ao : Nat) (l : Launch) (y : MethodName) (ws : List Cond) (rm : Room) (av : List Value) (ok : Prop) (v : Int32) (st st' : xSt) : Prop :=
  Met l y ws rm (va_Pc av (hPre D V la Ef cyI cyF cyM cyJ t0 sa sb ao st)) (hQ D V la Ef cyJ ao ok v st st') 1 6 (fun q => xA V la q ∨ q = ao)
abbrev rm_L_h : Room := { frames := 9, cells := 1, slots := 6, locals := 430 }
theorem KX8_peek : xKv yX8_peek cX8_peek 2 (some .int) RX8 1 := ⟨cd_X8_peek, im_X8_peek, se_X8_peek, in_X8, by decide +kernel⟩
theorem KX8_poke : xKv yX8_poke cX8_poke 4 (some .int) RX8 2 := ⟨cd_X8_poke, im_X8_poke, se_X8_poke, in_X8, by decide +kernel⟩
theorem KX8_global : xKv yX8_global cX8_global 4 (some .int) RX8 2 := ⟨cd_X8_global, im_X8_global, se_X8_global, in_X8, by decide +kernel⟩
theorem cw_poke : Cond.codeWith yL_poke cL_poke 5 (some .int) [(0, 10, 13, 13)] ∈ xALL := xALL_of (i := 547) (by decide +kernel) (by decide +kernel)
theorem cw_peek : Cond.codeWith yL_peek cL_peek 4 (some .int) [(0, 9, 12, 13)] ∈ xALL := xALL_of (i := 632) (by decide +kernel) (by decide +kernel)
theorem cw_global : Cond.codeWith yL_global cL_global 5 (some .int) [(0, 10, 13, 13)] ∈ xALL := xALL_of (i := 639) (by decide +kernel) (by decide +kernel)
theorem xPreT.blind {D : va_G} {V : Nat → Nat → Prop} {la : Nat → Nat → Nat} {Ef : xEf} {cyI cyF cyM : ClassId} {t0 sa sb : Nat} {st : xSt} {av : List Value} : FrameBlind (va_Pc av (xPreT D V la Ef cyI cyF cyM t0 sa sb st)) := by
  intro a U g mk q
  exact ⟨q.1, ⟨q.2.1.1, xStat.same (s := U) (U := U.calling g mk a) q.2.1.2 rfl⟩, xTS.same (s := U) (U := U.calling g mk a) q.2.2 rfl⟩
theorem hPre.blind {D : va_G} {V : Nat → Nat → Prop} {la : Nat → Nat → Nat} {Ef : xEf} {cyI cyF cyM cyJ : ClassId} {t0 sa sb ao : Nat} {st : xSt} {av : List Value} : FrameBlind (va_Pc av (hPre D V la Ef cyI cyF cyM cyJ t0 sa sb ao st)) := by
  intro a U g mk q
  obtain ⟨h1, h2⟩ := xPreT.blind (av := av) a U g mk ⟨q.1, q.2.1⟩
  exact ⟨h1, h2, q.2.2.1, arrOfT_moved (u := U) (E := U.calling g mk a) (Vm.Alike.refl U.vm) q.2.2.2.1, q.2.2.2.2⟩
section XH
variable {p : Program} {l : Launch} {e : Env} {R : Room} {s : State} {m : MethodId} {args : Array Value} {below : List Frame} {meth : Method} {c : Code} {H : Heap} {locs : List Loc} {cells slots : Nat} {Q : State → Prop}
variable {cc : ByteArray} {nL pc : Nat} {ls : Array Slot} {rest : List Value} {D : va_G} {V : Nat → Nat → Prop} {la : Nat → Nat → Nat} {Ef : xEf} {cyI cyF cyM cyJ : ClassId} {t0 sa sb ao : Nat} {own : String} {st st' : xSt} {ok : Prop} {A0 : Nat → Prop} {H0 : Heap}
theorem w_callX {v : Int32} {a : Array Value} {st0 : List Value} (hr : vx_Run p l e R s m args below meth c H locs cells slots 1 6 (F0 m pc ls st0) rest (xQx D V la Ef ok v st' a) (xXC D V la Ef ok st) (xA V la)) (hS : va_S A0 H0 H locs) (hA : ∀ q, xA V la q → A0 q)
    (kx : ∀ (ce : Cell) (q9 : Addr) (H1 : Heap) (locs1 : List Loc), ¬ ok → HW D V la Ef st H1 → va_S A0 H0 H1 locs1 → (∀ q : Nat, q < H.size → ¬ xA V la q → H1[q]? = H[q]?) → H1[q9]? = some ce → ce.vm = .none → s.vm.findClass xAI = some ce.cls → vx_W p l e R s m args below meth c H1 locs1 (cells + 1) (slots + 6) Q (F0 m pc ls rest) q9)
    (kk : ∀ (H1 : Heap) (locs1 : List Loc), ok → HW D V la Ef st' H1 → va_S A0 H0 H1 locs1 → (∀ q : Nat, q < H.size → ¬ xA V la q → H1[q]? = H[q]?) → W p l e R s m args below meth c H1 locs1 (cells + 1) (slots + 6) Q (F0 m (pc + 3) ls (.int v :: rest))) : W p l e R s m args below meth c H locs cells slots Q (F0 m pc ls st0) := by
  intro T hT X
  rcases hr T hT X with ⟨v9, st₀, t, T', L, h0, X', hL, e1, e2, ⟨hok, hv, hP', hF⟩, stp⟩ | ⟨q, st₀, t, T', L, E, ce, h0, X', hL, e1, e2, ⟨hE, hok, hP', hF⟩, hce, hcv, hcl, stp⟩
  · cases hv
    obtain ⟨k1, k2, k3⟩ := vx_keep h0 e1 hS (fun q _ h => hA q h) hA hL hF
    obtain ⟨t2, a1, b1⟩ := kk T'.heap (locs ++ L) hok (by rw [e1]; exact hP') k3 k2 T' rfl X'
    exact ⟨t2, stp t2 a1, b1⟩
  · subst hE
    obtain ⟨k1, k2, k3⟩ := vx_keep h0 e1 hS (fun q _ h => hA q h) hA hL hF
    obtain ⟨t2, a1, b1⟩ := kx ce q T'.heap (locs ++ L) hok (by rw [e1]; exact hP') k3 k2 (by rw [e1]; exact hce) hcv hcl T' rfl X'
    exact ⟨t2, stp.trans a1, b1⟩
theorem w_VX {y : MethodName} {bytes : ByteArray} {maxL n index : Nat} {ret : Option FieldType} {rm : Room} {As : List Value} {v : Int32} {st0 : List Value} (S : CallFix p m c cc nL s args xALL own) (hM : MetX D V la Ef cyI cyF cyM t0 sa sb l y (Cond.code y bytes maxL ret :: xALL) rm (.ref (la 8 0) :: As) ok v st st') (hpre : ∀ U : State, U.heap = H → s.WarmedH U.vm → xPreT D V la Ef cyI cyF cyM t0 sa sb st U) (hS : va_S A0 H0 H locs) (hA : ∀ q, xA V la q → A0 q) (hstk : st0 = As.reverse ++ .ref (la 8 0) :: rest) (K : xKv y bytes maxL ret RX8 n) (hlink : Cond.methodLink own index y ∈ xALL) (hrc : rm.cells = 1 ∧ rm.slots = 6) (hR : rm.frames + 1 ≤ R.frames ∧ 8 + (maxL + 11) + rm.locals ≤ R.locals) (hrecv : ∃ cell : Cell, H[la 8 0]? = some cell ∧ cell.vm.isStatics = false ∧ s.vm.findClass RX8 = some cell.cls) (hn : As.length = n) (hsz : ls.size = nL) (hW : (rest.map fun v => v.category).sum ≤ 8) (hcs : cells + 1 ≤ R.cells ∧ slots + 6 ≤ R.slots) (hdg : decode cc pc = .ok (.invokevirtual index, 3))
    (kx : ∀ (ce : Cell) (q9 : Addr) (H1 : Heap) (locs1 : List Loc), ¬ ok → HW D V la Ef st H1 → va_S A0 H0 H1 locs1 → (∀ q : Nat, q < H.size → ¬ xA V la q → H1[q]? = H[q]?) → H1[q9]? = some ce → ce.vm = .none → s.vm.findClass xAI = some ce.cls → vx_W p l e R s m args below meth c H1 locs1 (cells + 1) (slots + 6) Q (F0 m pc ls rest) q9)
    (kk : ∀ (H1 : Heap) (locs1 : List Loc), ok → HW D V la Ef st' H1 → va_S A0 H0 H1 locs1 → (∀ q : Nat, q < H.size → ¬ xA V la q → H1[q]? = H[q]?) → W p l e R s m args below meth c H1 locs1 (cells + 1) (slots + 6) Q (F0 m (pc + 3) ls (.int v :: rest))) : W p l e R s m args below meth c H locs cells slots Q (F0 m pc ls st0) := by
  obtain ⟨k1, k2, k3, k4, k5, k6⟩ := K
  subst hstk
  exact w_callX (vx_runV S hM ⟨callB_of n S.2.2.2.2 (fun w h => ⟨(List.mem_cons.mp h).elim (fun z => z ▸ k1) id, (List.mem_cons.mp h).elim (fun z => xALL_good _ (z ▸ k1)) (xALL_good _)⟩) rfl hrc.1 hrc.2 (by rw [k5]; exact S.2.2.2.2 _ k4) (S.2.2.2.2 _ hlink) k6 hR, S.2.2.2.2 _ k2, S.2.2.2.2 _ k3⟩
    ⟨xPreT.blind, hrecv, fun U hU hWm => ⟨rfl, hpre U hU hWm⟩⟩ rfl hn hsz rfl (lv_room hW) hdg hcs) hS hA kx kk
theorem w_last {x : Int64} {o0 : Int64} (S : CallFix p m c cc nL s args xALL own) (hJ : ArrOfT s cyJ .long) (ho : oAt cyJ ao o0 H) (hS : va_S A0 H0 H locs) (hA : A0 ao) (hdg : decode cc pc = .ok (.lastore, 1))
    (kk : ∀ (H1 : Heap) (locs1 : List Loc), oAt cyJ ao x H1 → (∀ q : Nat, q ≠ ao → H1[q]? = H[q]?) → va_S A0 H0 H1 locs1 → W p l e R s m args below meth c H1 locs1 cells slots Q (F0 m (pc + 1) ls rest)) : W p l e R s m args below meth c H locs cells slots Q (F0 m pc ls (.long x :: .int 0 :: .ref ao :: rest)) := by
  refine W.last S.1 S.2.1 ho (hJ 1 (fun _ => .long o0)) (fun q => by cases q) (by show ¬ ((0 : Int32) < 0 ∨ (arrV _ _ _).slots.size ≤ _); rw [arrV_size]; exact (by decide : ¬ ((0 : Int32) < 0 ∨ 1 ≤ Int32.toNatClampNeg 0))) rfl rfl hdg fun H1 e z oq => ?_
  refine kk H1 _ ?_ oq (hS.put z oq hA)
  show H1[ao]? = some (vp_cell _ _)
  rw [e]
  rw [vp_cell_l, vp_cell_l, arrV_store, arrV_congr (g := fun _ => .long x) (fun j hj => ?_)]
  have : j = 0 := by omega
  subst this
  rfl
end XH
set_option maxHeartbeats 4000000 in
set_option maxRecDepth 100000 in
theorem TL_poke (l : Launch) (hlt : l.stackTraces = false) {D : va_G} {la : Nat → Nat → Nat} {cyI cyF cyM cyJ : ClassId} {t0 sa sb ao mo N : Nat} {a1 a2 : Int32} {st st' : xSt} {dr : Int32} (hf : (¬ a1 < 0 ∧ ¬ (1024 : Int32) ≤ a1) → fX3_change N mo a1 a2 st = some (dr, st')) :
    MetH D (VC mo) la (ECf cyI cyF cyM mo la) cyI cyF cyM cyJ t0 sa sb ao l yL_poke (Cond.codeWith yL_poke cL_poke 5 (some .int) [(0, 10, 13, 13)] :: xALL) rm_L_h [.ref (la 8 0), .int a1, .int a2, .ref ao] (¬ a1 < 0 ∧ ¬ (1024 : Int32) ≤ a1) (st.1 20 3 a1.toNatClampNeg) st st' := by
  refine va_MetW (cc := cL_poke) (maxL := 5) (ret := some .int) (by decide) rfl ?_
  intro p e s m args below meth c s₁ B hml hv
  obtain ⟨rfl, ⟨⟨hP, hZ⟩, hT⟩, ⟨o0, ho⟩, hJ, hao⟩ := hv
  have hts := atoms_spec (ws := Cond.codeWith yL_poke cL_poke 5 (some .int) [(0, 10, 13, 13)] :: xALL) B.pre
  have hfc : s.vm.findClass RL = some m.cls := findClass_of_methodNamed B.named
  have S : CallFix p m c cL_poke 5 s _ xALL RL := ⟨B.exec, B.bytes, hml, hfc, fun w hw => hts w (List.mem_cons_of_mem _ hw)⟩
  have htab : c.exceptionTable.toList = tableOf [(0, 10, 13, 13)] := vx_table (x := yL_poke) B (hts _ List.mem_cons_self)
  have hx := B.exec
  have hb := B.bytes
  have hr := B.returns
  have hlocks := B.notSynchronized
  have hS : va_S (fun q => xA (VC mo) la q ∨ q = ao) s.heap s.heap [] := va_S.rf
  have hl := lv_entry [.ref (la 8 0), .int a1, .int a2, .ref ao] (n := 5) (Nat.le_of_ble_eq_true rfl)
  rw [lg_entry_eq]
  generalize (lg_sl [Value.ref (la 8 0), .int a1, .int a2, .ref ao] ++ List.replicate (5 - (lg_sl [Value.ref (la 8 0), .int a1, .int a2, .ref ao]).length) Slot.unset).toArray = ls at hl ⊢
  replace hl : lv_has ls 5 [(0, .ref (la 8 0)), (1, .int a1), (2, .int a2), (3, .ref ao)] := hl
  refine lv_aload_n hx hb dL_poke_0 rfl (lv_at hl 3 rfl) ?_
  refine lv_iconst (v := 0) hx hb dL_poke_1 (by decide) ?_
  refine lv_aload_n hx hb dL_poke_2 rfl (lv_at hl 0 rfl) ?_
  refine lv_iload_n hx hb dL_poke_3 rfl (lv_at hl 1 rfl) ?_
  refine lv_iload_n hx hb dL_poke_4 rfl (lv_at hl 2 rfl) ?_
  refine w_VX S (TX8_poke l hlt hf) (fun U hU hW => ⟨⟨by rw [hU]; exact hP, by rw [hU]; exact hZ.moved hW (fun _ _ _ => rfl)⟩, by rw [hU]; exact hT.moved hW (fun _ _ _ => rfl)⟩) hS (fun q h => Or.inl h) rfl KX8_poke ml_L_7 ⟨rfl, rfl⟩ ⟨by decide, by decide⟩ (x_recv (E := fun c i => (ECf cyI cyF cyM mo la) (st.1 c i) st.2 c i) (c0 := 8) (i0 := 0) hZ.2.1 hP rfl (ci := 8) rfl rfl) rfl hl.1 (Nat.le_of_ble_eq_true rfl) ⟨by decide, by decide⟩ dL_poke_5 (fun ce q9 H1 locs1 hok hP1 hS hk hce hcv hcl => ?_) (fun H1 locs1 hok hP1 hS hk => ?_)
  · refine vx_catch (E := xAI) (name := xAI) hfc ⟨0, 10, 13, 13⟩ htab (by decide) (by decide) (S.2.2.2.2 _ cl_L_13) (va_Nw.use rfl (hT.1 _ (List.mem_of_getElem? (i := 4) rfl))) hce hcv hcl ?_
    refine lv_astore (lv' := [(4, .ref q9), (0, .ref (la 8 0)), (1, .int a1), (2, .int a2), (3, .ref ao)]) hx hb dL_poke_13  hl (by decide) rfl (fun ls hl => ?_)
    refine lv_iconst (v := 1) hx hb dL_poke_15 (by decide) ?_
    refine W.iret (cells := 0 + 1) (slots := 0 + 6) hx hb hr (fun t ht _ => ⟨fun z => absurd z hok, fun _ => ⟨rfl, by rw [ht]; exact hP1, o0, ?_⟩, hS.F ht⟩) hS.2.2 dL_poke_16
    show t.heap[ao]? = _
    rw [ht, hk ao (Array.getElem?_eq_some_iff.mp ho).1 hao]
    exact ho
  · have ho1 : oAt cyJ ao o0 H1 := by
      show H1[ao]? = _
      rw [hk ao (Array.getElem?_eq_some_iff.mp ho).1 hao]
      exact ho
    refine lv_i2l hx hb dL_poke_8 rfl ?_
    refine w_last S hJ ho1 hS (Or.inr rfl) dL_poke_9 (fun H2 locs2 ho2 hk2 hS => ?_)
    refine lv_goto (tgt := 17) hx hb dL_poke_10 (by decide) ?_
    refine lv_iconst (v := 0) hx hb dL_poke_17 (by decide) ?_
    exact W.iret (cells := 0 + 1) (slots := 0 + 6) hx hb hr (fun t ht _ => ⟨fun _ => ⟨rfl, by rw [ht]; exact hP1.kept (fun c i hV => hk2 _ (fun z => hao (by rw [← z]; exact xA_of hV))), by rw [ht]; exact ho2⟩, fun z => absurd hok z, hS.F ht⟩) hS.2.2 dL_poke_18

set_option maxHeartbeats 4000000 in
set_option maxRecDepth 100000 in
theorem TL_global (l : Launch) (hlt : l.stackTraces = false) {D : va_G} {la : Nat → Nat → Nat} {cyI cyF cyM cyJ : ClassId} {t0 sa sb ao mo : Nat} {a1 a2 : Int32} {st : xSt} :
    MetH D (VC mo) la (ECf cyI cyF cyM mo la) cyI cyF cyM cyJ t0 sa sb ao l yL_global (Cond.codeWith yL_global cL_global 5 (some .int) [(0, 10, 13, 13)] :: xALL) rm_L_h [.ref (la 8 0), .int a1, .int a2, .ref ao] (¬ a1 < 0 ∧ ¬ (8 : Int32) ≤ a1) (st.1 20 1 a1.toNatClampNeg) st (pI st 20 1 a1.toNatClampNeg a2) := by
  refine va_MetW (cc := cL_global) (maxL := 5) (ret := some .int) (by decide) rfl ?_
  intro p e s m args below meth c s₁ B hml hv
  obtain ⟨rfl, ⟨⟨hP, hZ⟩, hT⟩, ⟨o0, ho⟩, hJ, hao⟩ := hv
  have hts := atoms_spec (ws := Cond.codeWith yL_global cL_global 5 (some .int) [(0, 10, 13, 13)] :: xALL) B.pre
  have hfc : s.vm.findClass RL = some m.cls := findClass_of_methodNamed B.named
  have S : CallFix p m c cL_global 5 s _ xALL RL := ⟨B.exec, B.bytes, hml, hfc, fun w hw => hts w (List.mem_cons_of_mem _ hw)⟩
  have htab : c.exceptionTable.toList = tableOf [(0, 10, 13, 13)] := vx_table (x := yL_global) B (hts _ List.mem_cons_self)
  have hx := B.exec
  have hb := B.bytes
  have hr := B.returns
  have hlocks := B.notSynchronized
  have hS : va_S (fun q => xA (VC mo) la q ∨ q = ao) s.heap s.heap [] := va_S.rf
  have hl := lv_entry [.ref (la 8 0), .int a1, .int a2, .ref ao] (n := 5) (Nat.le_of_ble_eq_true rfl)
  rw [lg_entry_eq]
  generalize (lg_sl [Value.ref (la 8 0), .int a1, .int a2, .ref ao] ++ List.replicate (5 - (lg_sl [Value.ref (la 8 0), .int a1, .int a2, .ref ao]).length) Slot.unset).toArray = ls at hl ⊢
  replace hl : lv_has ls 5 [(0, .ref (la 8 0)), (1, .int a1), (2, .int a2), (3, .ref ao)] := hl
  refine lv_aload_n hx hb dL_global_0 rfl (lv_at hl 3 rfl) ?_
  refine lv_iconst (v := 0) hx hb dL_global_1 (by decide) ?_
  refine lv_aload_n hx hb dL_global_2 rfl (lv_at hl 0 rfl) ?_
  refine lv_iload_n hx hb dL_global_3 rfl (lv_at hl 1 rfl) ?_
  refine lv_iload_n hx hb dL_global_4 rfl (lv_at hl 2 rfl) ?_
  refine w_VX S (TX8_global l hlt ) (fun U hU hW => ⟨⟨by rw [hU]; exact hP, by rw [hU]; exact hZ.moved hW (fun _ _ _ => rfl)⟩, by rw [hU]; exact hT.moved hW (fun _ _ _ => rfl)⟩) hS (fun q h => Or.inl h) rfl KX8_global ml_L_19 ⟨rfl, rfl⟩ ⟨by decide, by decide⟩ (x_recv (E := fun c i => (ECf cyI cyF cyM mo la) (st.1 c i) st.2 c i) (c0 := 8) (i0 := 0) hZ.2.1 hP rfl (ci := 8) rfl rfl) rfl hl.1 (Nat.le_of_ble_eq_true rfl) ⟨by decide, by decide⟩ dL_global_5 (fun ce q9 H1 locs1 hok hP1 hS hk hce hcv hcl => ?_) (fun H1 locs1 hok hP1 hS hk => ?_)
  · refine vx_catch (E := xAI) (name := xAI) hfc ⟨0, 10, 13, 13⟩ htab (by decide) (by decide) (S.2.2.2.2 _ cl_L_13) (va_Nw.use rfl (hT.1 _ (List.mem_of_getElem? (i := 4) rfl))) hce hcv hcl ?_
    refine lv_astore (lv' := [(4, .ref q9), (0, .ref (la 8 0)), (1, .int a1), (2, .int a2), (3, .ref ao)]) hx hb dL_global_13  hl (by decide) rfl (fun ls hl => ?_)
    refine lv_iconst (v := 1) hx hb dL_global_15 (by decide) ?_
    refine W.iret (cells := 0 + 1) (slots := 0 + 6) hx hb hr (fun t ht _ => ⟨fun z => absurd z hok, fun _ => ⟨rfl, by rw [ht]; exact hP1, o0, ?_⟩, hS.F ht⟩) hS.2.2 dL_global_16
    show t.heap[ao]? = _
    rw [ht, hk ao (Array.getElem?_eq_some_iff.mp ho).1 hao]
    exact ho
  · have ho1 : oAt cyJ ao o0 H1 := by
      show H1[ao]? = _
      rw [hk ao (Array.getElem?_eq_some_iff.mp ho).1 hao]
      exact ho
    refine lv_i2l hx hb dL_global_8 rfl ?_
    refine w_last S hJ ho1 hS (Or.inr rfl) dL_global_9 (fun H2 locs2 ho2 hk2 hS => ?_)
    refine lv_goto (tgt := 17) hx hb dL_global_10 (by decide) ?_
    refine lv_iconst (v := 0) hx hb dL_global_17 (by decide) ?_
    exact W.iret (cells := 0 + 1) (slots := 0 + 6) hx hb hr (fun t ht _ => ⟨fun _ => ⟨rfl, by rw [ht]; exact hP1.kept (fun c i hV => hk2 _ (fun z => hao (by rw [← z]; exact xA_of hV))), by rw [ht]; exact ho2⟩, fun z => absurd hok z, hS.F ht⟩) hS.2.2 dL_global_18

set_option maxHeartbeats 4000000 in
set_option maxRecDepth 100000 in
theorem TL_peek (l : Launch) (hlt : l.stackTraces = false) {D : va_G} {la : Nat → Nat → Nat} {cyI cyF cyM cyJ : ClassId} {t0 sa sb ao mo : Nat} {a1 : Int32} {st : xSt} :
    MetH D (VC mo) la (ECf cyI cyF cyM mo la) cyI cyF cyM cyJ t0 sa sb ao l yL_peek (Cond.codeWith yL_peek cL_peek 4 (some .int) [(0, 9, 12, 13)] :: xALL) rm_L_h [.ref (la 8 0), .int a1, .ref ao] (¬ a1 < 0 ∧ ¬ (1024 : Int32) ≤ a1) (st.1 20 3 a1.toNatClampNeg) st st := by
  refine va_MetW (cc := cL_peek) (maxL := 4) (ret := some .int) (by decide) rfl ?_
  intro p e s m args below meth c s₁ B hml hv
  obtain ⟨rfl, ⟨⟨hP, hZ⟩, hT⟩, ⟨o0, ho⟩, hJ, hao⟩ := hv
  have hts := atoms_spec (ws := Cond.codeWith yL_peek cL_peek 4 (some .int) [(0, 9, 12, 13)] :: xALL) B.pre
  have hfc : s.vm.findClass RL = some m.cls := findClass_of_methodNamed B.named
  have S : CallFix p m c cL_peek 4 s _ xALL RL := ⟨B.exec, B.bytes, hml, hfc, fun w hw => hts w (List.mem_cons_of_mem _ hw)⟩
  have htab : c.exceptionTable.toList = tableOf [(0, 9, 12, 13)] := vx_table (x := yL_peek) B (hts _ List.mem_cons_self)
  have hx := B.exec
  have hb := B.bytes
  have hr := B.returns
  have hlocks := B.notSynchronized
  have hS : va_S (fun q => xA (VC mo) la q ∨ q = ao) s.heap s.heap [] := va_S.rf
  have hl := lv_entry [.ref (la 8 0), .int a1, .ref ao] (n := 4) (Nat.le_of_ble_eq_true rfl)
  rw [lg_entry_eq]
  generalize (lg_sl [Value.ref (la 8 0), .int a1, .ref ao] ++ List.replicate (4 - (lg_sl [Value.ref (la 8 0), .int a1, .ref ao]).length) Slot.unset).toArray = ls at hl ⊢
  replace hl : lv_has ls 4 [(0, .ref (la 8 0)), (1, .int a1), (2, .ref ao)] := hl
  refine lv_aload_n hx hb dL_peek_0 rfl (lv_at hl 2 rfl) ?_
  refine lv_iconst (v := 0) hx hb dL_peek_1 (by decide) ?_
  refine lv_aload_n hx hb dL_peek_2 rfl (lv_at hl 0 rfl) ?_
  refine lv_iload_n hx hb dL_peek_3 rfl (lv_at hl 1 rfl) ?_
  refine w_VX S (TX8_peek l hlt ) (fun U hU hW => ⟨⟨by rw [hU]; exact hP, by rw [hU]; exact hZ.moved hW (fun _ _ _ => rfl)⟩, by rw [hU]; exact hT.moved hW (fun _ _ _ => rfl)⟩) hS (fun q h => Or.inl h) rfl KX8_peek ml_L_15 ⟨rfl, rfl⟩ ⟨by decide, by decide⟩ (x_recv (E := fun c i => (ECf cyI cyF cyM mo la) (st.1 c i) st.2 c i) (c0 := 8) (i0 := 0) hZ.2.1 hP rfl (ci := 8) rfl rfl) rfl hl.1 (Nat.le_of_ble_eq_true rfl) ⟨by decide, by decide⟩ dL_peek_4 (fun ce q9 H1 locs1 hok hP1 hS hk hce hcv hcl => ?_) (fun H1 locs1 hok hP1 hS hk => ?_)
  · refine vx_catch (E := xAI) (name := xAI) hfc ⟨0, 9, 12, 13⟩ htab (by decide) (by decide) (S.2.2.2.2 _ cl_L_13) (va_Nw.use rfl (hT.1 _ (List.mem_of_getElem? (i := 4) rfl))) hce hcv hcl ?_
    refine lv_astore_n (lv' := [(3, .ref q9), (0, .ref (la 8 0)), (1, .int a1), (2, .ref ao)]) hx hb dL_peek_12 rfl hl (by decide) rfl (fun ls hl => ?_)
    refine lv_iconst (v := 1) hx hb dL_peek_13 (by decide) ?_
    refine W.iret (cells := 0 + 1) (slots := 0 + 6) hx hb hr (fun t ht _ => ⟨fun z => absurd z hok, fun _ => ⟨rfl, by rw [ht]; exact hP1, o0, ?_⟩, hS.F ht⟩) hS.2.2 dL_peek_14
    show t.heap[ao]? = _
    rw [ht, hk ao (Array.getElem?_eq_some_iff.mp ho).1 hao]
    exact ho
  · have ho1 : oAt cyJ ao o0 H1 := by
      show H1[ao]? = _
      rw [hk ao (Array.getElem?_eq_some_iff.mp ho).1 hao]
      exact ho
    refine lv_i2l hx hb dL_peek_7 rfl ?_
    refine w_last S hJ ho1 hS (Or.inr rfl) dL_peek_8 (fun H2 locs2 ho2 hk2 hS => ?_)
    refine lv_goto (tgt := 15) hx hb dL_peek_9 (by decide) ?_
    refine lv_iconst (v := 0) hx hb dL_peek_15 (by decide) ?_
    exact W.iret (cells := 0 + 1) (slots := 0 + 6) hx hb hr (fun t ht _ => ⟨fun _ => ⟨rfl, by rw [ht]; exact hP1.kept (fun c i hV => hk2 _ (fun z => hao (by rw [← z]; exact xA_of hV))), by rw [ht]; exact ho2⟩, fun z => absurd hok z, hS.F ht⟩) hS.2.2 dL_peek_16

/-- cell(script, 0) -/
def cQ (v : Int32) : Array Value → State → Outcome → State → Prop := fun _ s0 o t => o = .returned (some (.int v)) ∧ t.heap = s0.heap
set_option maxHeartbeats 4000000 in
theorem TL_cell (l : Launch) {b L : Nat} {xs : Nat → Int32} (hL : L ≤ 2561) : Met l yL_cell (Cond.code yL_cell cL_cell 2 (some .int) :: xALL) { frames := 0, cells := 0, slots := 0, locals := 0 } (va_Pc [.ref b, .int 0] (fun U => va_X b L xs U U.heap)) (cQ (if L = 0 then 0 else xs 0)) 0 0 (fun _ => False) := by
  refine Met.ofW (cc := cL_cell) (maxL := 2) (ret := some .int) (by decide) rfl ?_
  intro p e s m args below meth c s₁ B hml hv
  obtain ⟨rfl, hX⟩ := hv
  have hx := B.exec
  have hb := B.bytes
  have hr := B.returns
  have hlocks := B.notSynchronized
  have hS : va_S (fun _ => False) s.heap s.heap [] := va_S.rf
  have hbl : b < s.heap.size := by obtain ⟨scr, h1, -⟩ := hX; exact (Array.getElem?_eq_some_iff.mp h1).1
  have hl := lv_entry [.ref b, .int 0] (n := 2) (Nat.le_of_ble_eq_true rfl)
  rw [lg_entry_eq]
  generalize (lg_sl [Value.ref b, .int 0] ++ List.replicate (2 - (lg_sl [Value.ref b, .int 0]).length) Slot.unset).toArray = ls at hl ⊢
  replace hl : lv_has ls 2 [(0, .ref b), (1, .int 0)] := hl
  refine lv_iload_n hx hb dL_cell_0 rfl (lv_at hl 1 rfl) ?_
  refine lv_aload_n hx hb dL_cell_1 rfl (lv_at hl 0 rfl) ?_
  refine va_slen hx hb hX hbl id hS dL_cell_2 ?_
  refine lv_icmp_ge (tgt := 12) hx hb dL_cell_3 (by decide) (fun c1 => ?_) (fun c1 => ?_)
  · have h0 : L = 0 := by
      rcases Nat.eq_zero_or_pos L with h | h
      · exact h
      · exact absurd c1 (nI_ge (a := 0) (b := L) h (by omega))
    refine lv_iconst (v := 0) hx hb dL_cell_12 (by decide) ?_
    exact W.iret hx hb hr (fun t ht _ => ⟨by rw [if_pos h0], ht⟩) hS.2.2 dL_cell_13
  · have h0 : ¬ L = 0 := fun h => c1 (by rw [h]; decide)
    refine lv_aload_n hx hb dL_cell_6 rfl (lv_at hl 0 rfl) ?_
    refine lv_iload_n hx hb dL_cell_7 rfl (lv_at hl 1 rfl) ?_
    refine va_sld hx hb hX hbl id hS (i := 0) (vp_in_nI (n := 0) (N := L) (by omega) (by omega)) dL_cell_8 ?_
    refine lv_goto (tgt := 13) hx hb dL_cell_9 (by decide) ?_
    exact W.iret hx hb hr (fun t ht _ => ⟨by rw [if_neg h0]; rfl, ht⟩) hS.2.2 dL_cell_13
