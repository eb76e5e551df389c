/-! THE CLAIM OUT OF ONE WALK OF THE LAW'S BODY. Your part is whole_start (and what it stands on); all else here is the same for every law, but numbers. -/
def R_law : String := "MadeCallsLaw"
def lw_P (b : Addr) (xs : List Int32) (args : Array Value) (s : State) : Prop := args = #[.ref b] ∧ s.IntsAt b xs ∧ xs.length ≤ 2561 ∧ (Jvm.Cond.and given_1 narrow_1).before args s = true
def lw_Q (_ : Array Value) (s : State) (o : Outcome) (t : State) : Prop := o = .returned (some (.int 1)) ∧ Framed s o t [] 603072 7218911
def lw_Z (below : List Frame) (a : Array Value) (s : State) : State → Prop := fun t => ∃ o, t.status = .running ∧ Ended t below o ∧ lw_Q a s o t
/-- the law's own end, with 1 on the stack, nothing written that was there before, its room as the claim has it -/
theorem lw_ret {p : Program} {l : Launch} {e : Env} {s : State} {m : MethodId} {below : List Frame} {meth : Method} {c : Code} {b : Nat} (hx : p.tables.exec = Jvm.exec) (hb : c.code = code) (hr : meth.sig.returnType = ret) (hlocks : meth.locks = false) {pc : Nat} {H : Heap} {ls : Array Slot} (hdg : decode code pc = .ok (.ireturn, 1)) : W p l e room_1 s m #[Value.ref b] below meth c H [] 603072 7218911 (lw_Z below #[Value.ref b] s) (F0 m pc ls [.int 1]) := by
  intro T hT X
  obtain ⟨fs, hret, hrun, hended, hW, hframe⟩ := X.leave (v := some (.int 1)) (hlocks := hlocks) (fun h => by rw [hr] at h; cases h)
  have hmeth' : T.vm.method? m = some meth := X.method'
  refine ⟨T.setFrames fs, ?_, .returned (some (.int 1)), hrun, hended, rfl, ⟨_, rfl⟩, hW, hframe⟩
  jvm_step X.here [X.here.top, hx, hb, hdg, hmeth', hr, ret, narrow_b1]
  (try refine ⟨rfl, ?_⟩); (try refine ⟨rfl, ?_⟩)
  first | (intro acts; rw [hret _ acts rfl rfl rfl]) | rw [hret _ _ rfl rfl rfl]
  exact Steps.refl _
/-- what holds at the law's entry: the machine, the code, the tables' words (any of lw_tbl by 'hts w (by decide +kernel)'), the script of L ints xs at the cell b, what the Statement gives of the start (any of its parts by flat_of_before) -/
def lw_At (p : Program) (s : State) (m : MethodId) (meth : Method) (c : Code) (b L : Nat) (xs : Nat → Int32) : Prop :=
  p.tables.exec = Jvm.exec ∧ c.code = code ∧ meth.sig.returnType = ret ∧ c.maxLocals = 7 ∧ s.vm.findClass R_law = some m.cls ∧ (∀ w ∈ lw_tbl, w.before #[Value.ref b] s = true) ∧ va_X b L xs s s.heap ∧ b < s.heap.size ∧ meth.locks = false ∧ (Jvm.Cond.and given_1 narrow_1).before #[Value.ref b] s = true
/-- what the pure part owes: each call of the law answers alike on both sides, and the two states stay alike -/
abbrev okB (a : Int32) : Prop := ¬ a < 0 ∧ ¬ (1024 : Int32) ≤ a
abbrev okG (a : Int32) : Prop := ¬ a < 0 ∧ ¬ (8 : Int32) ≤ a
def xOps (N : Nat) (Sim : Nat → Nat → xSt → xSt → Prop) : Prop := ∀ (mo t : Nat) (sC sM : xSt), mo ≤ 20 → t < 512 → Sim mo t sC sM →
  (∀ a b : Int32, ∃ v sM', fX9_poke N a b sM = some (v, sM') ∧ (okB a → sM'.1 9 0 0 = 0 ∧ v = sC.1 20 3 a.toNatClampNeg ∧ ∃ dr sC', fX3_change N mo a b sC = some (dr, sC') ∧ Sim mo (t + 1) sC' sM') ∧ (¬ okB a → sM'.1 9 0 0 = 1 ∧ Sim mo (t + 1) sC sM')) ∧
  (∀ a : Int32, ∃ v sM', fX9_peek N a sM = some (v, sM') ∧ (okB a → sM'.1 9 0 0 = 0 ∧ v = sC.1 20 3 a.toNatClampNeg ∧ Sim mo (t + 1) sC sM') ∧ (¬ okB a → sM'.1 9 0 0 = 1 ∧ Sim mo (t + 1) sC sM')) ∧
  (∀ a b : Int32, ∃ v sM', fX9_global N a b sM = some (v, sM') ∧ (okG a → sM'.1 9 0 0 = 0 ∧ v = sC.1 20 1 a.toNatClampNeg ∧ Sim mo (t + 1) (pI sC 20 1 a.toNatClampNeg b) sM') ∧ (¬ okG a → sM'.1 9 0 0 = 1 ∧ Sim mo (t + 1) sC sM')) ∧
  (∀ (a b : Int32) (w : Int64), ∃ r sC' sM', fX8_feed N mo a b w sC = some (r, sC') ∧ fX9_feed N a b w sM = some (r, sM') ∧ Sim mo (t + 1) sC' sM') ∧
  (∀ (a : Int32), ∃ r sC' sM', fX8_make N mo a sC = some (r, sC') ∧ fX9_make N a sM = some (r, sM') ∧ Sim mo (t + 1) sC' sM') ∧
  (∃ r sC' sM', fX8_place N mo  sC = some (r, sC') ∧ fX9_place N  sM = some (r, sM') ∧ Sim mo (t + 1) sC' sM') ∧
  (∀ (a b : Int32), ∃ r sC' sM', fX8_argument N mo a b sC = some (r, sC') ∧ fX9_argument N a b sM = some (r, sM') ∧ Sim mo (t + 1) sC' sM') ∧
  (∀ (a b : Int32), ∃ r sC' sM', fX8_call N mo a b sC = some (r, sC') ∧ fX9_call N a b sM = some (r, sM') ∧ Sim mo (t + 1) sC' sM') ∧
  (∀ (a b : Int32), ∃ r sC' sM', fX8_walk N mo a b sC = some (r, sC') ∧ fX9_walk N a b sM = some (r, sM') ∧ Sim mo (t + 1) sC' sM') ∧
  (∃ r sC' sM', fX8_result N mo  sC = some (r, sC') ∧ fX9_result N  sM = some (r, sM') ∧ Sim mo (t + 1) sC' sM') ∧
  (∀ (a : Int32), ∃ r sC' sM', fX8_fault N mo a sC = some (r, sC') ∧ fX9_fault N a sM = some (r, sM') ∧ Sim mo (t + 1) sC' sM') ∧
  (∀ (a b : Int32), ∃ r sC' sM', fX8_accelerate N mo a b sC = some (r, sC') ∧ fX9_accelerate N a b sM = some (r, sM') ∧ Sim mo (t + 1) sC' sM') ∧
  (∀ (a : Int32), ∃ r sC' sM', fX8_kept N mo a sC = some (r, sC') ∧ fX9_kept N a sM = some (r, sM') ∧ Sim mo (t + 1) sC' sM') ∧
  (∀ (a : Int32), ∃ r sC' sM', fX8_drop N mo a sC = some (r, sC') ∧ fX9_drop N a sM = some (r, sM') ∧ Sim mo (t + 1) sC' sM') ∧
  (∀ (a : Int32), ∃ r sC' sM', fX8_count N mo a sC = some (r, sC') ∧ fX9_count N a sM = some (r, sM') ∧ Sim mo (t + 1) sC' sM')
section XL
variable {p : Program} {l : Launch} {e : Env} {R : Room} {s : State} {m : MethodId} {args : Array Value} {below : List Frame} {meth : Method} {c : Code} {H : Heap} {locs : List Loc} {cells slots : Nat} {Q : State → Prop}
variable {cc : ByteArray} {nL pc : Nat} {ls : Array Slot} {rest : List Value} {D : va_G} {V : Nat → Nat → Prop} {la : Nat → Nat → Nat} {Ef : xEf} {cyI cyF cyM cyJ : ClassId} {t0 sa sb ao : Nat} {own : String} {st st' : xSt} {ok : Prop}
/-- a call of either system out of the law -/
theorem L_V {y : MethodName} {bytes : ByteArray} {maxL n index b : Nat} {ret : Option FieldType} {C : String} {rm : Room} {As : List Value} {v : Value} {st0 : List Value} (S : CallFix p m c cc nL s args xALL own) (hst : xStat D V la cyI cyF cyM t0 s s.heap) (hV0 : ∀ c i, V c i → s.heap.size ≤ la c i) (hM : MetW D V la Ef cyI cyF cyM t0 l y (Cond.code y bytes maxL ret :: xALL) rm (.ref b :: As) (some v) st st') (hP : HW D V la Ef st H) (hS : va_S (fun q => s.heap.size ≤ q) s.heap H locs) (hstk : st0 = As.reverse ++ .ref b :: rest) (K : xKv y bytes maxL ret C n) (hlink : Cond.methodLink own index y ∈ xALL) (hrc : rm.cells = 0 ∧ rm.slots = 0) (hR : rm.frames + 1 ≤ R.frames ∧ 8 + (maxL + 11) + rm.locals ≤ R.locals) (hrecv : ∃ cell : Cell, H[b]? = some cell ∧ cell.vm.isStatics = false ∧ s.vm.findClass C = some cell.cls) (hn : As.length = n) (hsz : ls.size = nL) (hW : (rest.map fun v => v.category).sum ≤ 8) (hcs : cells ≤ R.cells ∧ slots ≤ R.slots) (hdg : decode cc pc = .ok (.invokevirtual index, 3))
    (kk : ∀ (H1 : Heap) (locs1 : List Loc), HW D V la Ef st' H1 → va_S (fun q => s.heap.size ≤ q) s.heap H1 locs1 → (∀ q : Nat, q < H.size → ¬ xA V la q → H1[q]? = H[q]?) → W p l e R s m args below meth c H1 locs1 cells slots Q (F0 m (pc + 3) ls (v :: rest))) : W p l e R s m args below meth c H locs cells slots Q (F0 m pc ls st0) := by
  obtain ⟨k1, k2, k3, k4, k5, k6⟩ := K
  subst k5
  subst hstk
  have hA : ∀ q, xA V la q → s.heap.size ≤ q := fun q h => by obtain ⟨c, i, h1, rfl⟩ := h; exact hV0 c i h1
  have hr := va_runV (H := H) (locs := locs) (cells := cells) (slots := slots) (e := e) (R := R) (below := below) (meth := meth) (l := l) (g := F0 m pc ls (As.reverse ++ .ref b :: rest)) (rest := rest) (As := As) S hM ⟨callB_of n S.2.2.2.2 (fun w h => ⟨(List.mem_cons.mp h).elim (fun z => z ▸ k1) id, (List.mem_cons.mp h).elim (fun z => xALL_good _ (z ▸ k1)) (xALL_good _)⟩) rfl hrc.1 hrc.2 (S.2.2.2.2 _ k4) (S.2.2.2.2 _ hlink) k6 hR, S.2.2.2.2 _ k2, S.2.2.2.2 _ k3⟩
    ⟨xPre.blind, hrecv, fun U hU hWm => ⟨rfl, by rw [hU]; exact hP, by rw [hU]; exact hst.moved hWm (fun a h1 _ => hS.2.1 a h1 (Nat.not_le.mpr h1))⟩⟩ rfl hn hsz rfl (lv_room hW) hdg hcs
  intro T hT X
  obtain ⟨v9, st₀, t, T', L, h0, X', hL, e1, e2, ⟨hv, hP', hF⟩, stp⟩ := hr T hT X
  cases hv
  obtain ⟨q1, q2, q3⟩ := vx_keep h0 e1 hS (fun q _ h => hA q h) hA hL hF
  obtain ⟨t2, a1, b1⟩ := kk T'.heap (locs ++ L) (by rw [e1]; exact hP') q3 q2 T' rfl X'
  exact ⟨t2, stp t2 a1, b1⟩
/-- a call of a helper that catches -/
theorem L_H {y : MethodName} {bytes : ByteArray} {maxL n index : Nat} {hh : List (Nat × Nat × Nat × Nat)} {rm : Room} {As : List Value} {v : Int32} {st0 : List Value} {x0 : Int64} (S : CallFix p m c cc nL s args xALL own) (hst : xStat D V la cyI cyF cyM t0 s s.heap) (hTS : xTS V la sa sb s s.heap) (hJ : ArrOfT s cyJ .long) (hV0 : ∀ c i, V c i → s.heap.size ≤ la c i) (hao : ¬ xA V la ao) (hao0 : s.heap.size ≤ ao) (ho : oAt cyJ ao x0 H) (hM : MetH D V la Ef cyI cyF cyM cyJ t0 sa sb ao l y (Cond.codeWith y bytes maxL (some .int) hh :: xALL) rm As ok v st st') (hP : HW D V la Ef st H) (hS : va_S (fun q => s.heap.size ≤ q) s.heap H locs) (hstk : st0 = As.reverse ++ rest) (hcw : Cond.codeWith y bytes maxL (some .int) hh ∈ xALL) (hstt : Cond.static y ∈ xALL) (hini : Cond.initialized y.cls ∈ xALL) (hd : y.cls ≠ "java/lang/invoke/MethodHandle" ∧ y.cls ≠ "java/lang/invoke/VarHandle" ∧ (parseMethodDescriptor y.desc).map (fun d => d.parameters.length) = some n) (hlink : Cond.methodLink own index y ∈ xALL) (hrc : rm.cells = 1 ∧ rm.slots = 6) (hR : rm.frames + 1 ≤ R.frames ∧ 8 + (maxL + 11) + rm.locals ≤ R.locals) (hn : As.length = n) (hsz : ls.size = nL) (hW : (rest.map fun v => v.category).sum ≤ 8) (hcs : cells + 1 ≤ R.cells ∧ slots + 6 ≤ R.slots) (hdg : decode cc pc = .ok (.invokestatic index, 3))
    (k0 : ∀ (H1 : Heap) (locs1 : List Loc), ok → HW D V la Ef st' H1 → oAt cyJ ao v.toInt64 H1 → va_S (fun q => s.heap.size ≤ q) s.heap H1 locs1 → (∀ q : Nat, q < H.size → ¬ (xA V la q ∨ q = ao) → H1[q]? = H[q]?) → W p l e R s m args below meth c H1 locs1 (cells + 1) (slots + 6) Q (F0 m (pc + 3) ls (.int 0 :: rest)))
    (k1 : ∀ (H1 : Heap) (locs1 : List Loc) (x1 : Int64), ¬ ok → HW D V la Ef st H1 → oAt cyJ ao x1 H1 → va_S (fun q => s.heap.size ≤ q) s.heap H1 locs1 → (∀ q : Nat, q < H.size → ¬ (xA V la q ∨ q = ao) → H1[q]? = H[q]?) → W p l e R s m args below meth c H1 locs1 (cells + 1) (slots + 6) Q (F0 m (pc + 3) ls (.int 1 :: rest))) : W p l e R s m args below meth c H locs cells slots Q (F0 m pc ls st0) := by
  subst hstk
  have hA : ∀ q, (xA V la q ∨ q = ao) → s.heap.size ≤ q := fun q h => by
    rcases h with h | h
    · obtain ⟨c, i, h1, rfl⟩ := h; exact hV0 c i h1
    · rw [h]; exact hao0
  have hwd : ∀ w ∈ (Cond.codeWith y bytes maxL (some .int) hh :: xALL), w ∈ xALL := fun w h => (List.mem_cons.mp h).elim (fun z => z ▸ hcw) id
  have hr := vx_runSW (H := H) (locs := locs) (cells := cells) (slots := slots) (e := e) (R := R) (below := below) (meth := meth) (l := l) (g := F0 m pc ls (As.reverse ++ rest)) (rest := rest) (As := As) (n := n) (index := index) S hM
    ⟨⟨hrc.1, hrc.2, hR.1, hR.2, fun w hw a' U hWm => word_at hWm (xALL_good _ (hwd w hw)) (S.2.2.2.2 _ (hwd w hw)), List.mem_cons_self⟩, S.2.2.2.2 _ hcw, S.2.2.2.2 _ hini, ⟨hd.1, hd.2.1⟩, fun sig h => by
      have h2 := hd.2.2
      rw [h] at h2
      exact (Option.some.inj h2).symm, S.2.2.2.2 _ hlink, S.2.2.2.2 _ hstt⟩
    ⟨hPre.blind, fun U hU hWm => ⟨rfl, ⟨⟨by rw [hU]; exact hP, by rw [hU]; exact hst.moved hWm (fun a h1 _ => hS.2.1 a h1 (Nat.not_le.mpr h1))⟩, by rw [hU]; exact hTS.moved hWm (fun a h1 _ => hS.2.1 a h1 (Nat.not_le.mpr h1))⟩, ⟨x0, by rw [hU]; exact ho⟩, arrOfT_moved hWm.alike hJ, hao⟩⟩ rfl hn hsz rfl (lv_room hW) hdg hcs
  intro T hT X
  obtain ⟨v9, st₀, t, T', L, h0, X', hL, e1, e2, ⟨h1, h2, hF⟩, stp⟩ := hr T hT X
  obtain ⟨q1, q2, q3⟩ := vx_keep h0 e1 hS (fun q _ h => hA q h) hA hL hF
  by_cases hok : ok
  · obtain ⟨hv, hP', ho'⟩ := h1 hok
    cases hv
    obtain ⟨t2, a1, b1⟩ := k0 T'.heap (locs ++ L) hok (by rw [e1]; exact hP') (by rw [e1]; exact ho') q3 q2 T' rfl X'
    exact ⟨t2, stp t2 a1, b1⟩
  · obtain ⟨hv, hP', x1, ho'⟩ := h2 hok
    cases hv
    obtain ⟨t2, a1, b1⟩ := k1 T'.heap (locs ++ L) x1 hok (by rw [e1]; exact hP') (by rw [e1]; exact ho') q3 q2 T' rfl X'
    exact ⟨t2, stp t2 a1, b1⟩
theorem L_lald {x : Int64} (S : CallFix p m c cc nL s args xALL own) (hJ : ArrOfT s cyJ .long) (ho : oAt cyJ ao x H) (hdg : decode cc pc = .ok (.laload, 1))
    (kk : W p l e R s m args below meth c H locs cells slots Q (F0 m (pc + 1) ls (.long x :: rest))) : W p l e R s m args below meth c H locs cells slots Q (F0 m pc ls (.int 0 :: .ref ao :: rest)) :=
  W.lald (v := .long x) S.1 S.2.1 ho (hJ 1 (fun _ => .long x)) (fun q => by cases q) (by show ¬ ((0 : Int32) < 0 ∨ (arrV _ _ _).slots.size ≤ _); rw [arrV_size]; exact (by decide : ¬ ((0 : Int32) < 0 ∨ 1 ≤ Int32.toNatClampNeg 0))) (by show (arrV _ _ _).slots[_]? = _; rw [arrV_read _ _ (show Int32.toNatClampNeg 0 < 1 by decide)]) rfl rfl hdg kk
end XL
/-- the loop's condition -/
theorem lw_cond {L i : Nat} (hL : L ≤ 2561) (hi : i ≤ 3000) : (Int32.ofNat L - 5 < nI i) ↔ L < i + 5 := by
  have h1 : (nI L - nI 5).toInt = (L : Int) - 5 := pk_sub_toInt (by omega) (by omega)
  have h2 : (nI i).toInt = (i : Int) := nI_toInt (by omega)
  have h3 : (Int32.ofNat L - 5 : Int32) = nI L - nI 5 := rfl
  rw [h3, Int32.lt_iff_toInt_lt, h1, h2]
  omega
