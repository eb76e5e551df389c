/-! A state of a world: the whole numbers that its cells hold (kind, index, place), and the references that may change (as numbers). -/
abbrev xSt : Type := (Nat → Nat → Nat → Int32) × (Nat → Nat → Nat)
abbrev xEf : Type := (Nat → Int32) → (Nat → Nat → Nat) → Nat → Nat → va_E
def HW (D : va_G) (V : Nat → Nat → Prop) (la : Nat → Nat → Nat) (Ef : xEf) (st : xSt) (H : Heap) : Prop := xP D V la (fun c i => Ef (st.1 c i) st.2 c i) H
def pI (st : xSt) (c i k : Nat) (v : Int32) : xSt := (fun c' i' => if c' = c ∧ i' = i then upd (st.1 c i) k v else st.1 c' i', st.2)
def pQ (st : xSt) (a k v : Nat) : xSt := (st.1, fun a' k' => if a' = a ∧ k' = k then v else st.2 a' k')
def nm {α β : Type} (e : α) (k : α → β) : β := k e
theorem nm_of {α β : Type} {e x : α} {k : α → β} {o : β} (h : nm e k = o) (hx : x = e) : k x = o := by subst hx; exact h
theorem nm_gen {α β : Type} {P : α → Prop} {e : α} {k : α → β} {o : β} (hP : P e) (h : nm e k = o) : ∃ x, P x ∧ k x = o := ⟨e, hP, h⟩
theorem ck_of {α : Type} {c : Prop} {dc : Decidable c} {k : Option α} {r : α} (h : (if c then none else k) = some r) : ¬ c ∧ k = some r := by
  by_cases hc : c
  · rw [if_pos hc] at h; cases h
  · rw [if_neg hc] at h; exact ⟨hc, h⟩
theorem bd_of {α β : Type} {a : Option α} {f : α → Option β} {r : β} (h : Option.bind a f = some r) : ∃ x, a = some x ∧ f x = some r := Option.bind_eq_some_iff.mp h
def xTys (cyI cyF cyM : ClassId) : List (ClassId × FieldType) := [(cyI, .int), (cyF, .object "MadeCalls$Frame"), (cyM, .object "MadeCalls$Made")]
def xForm (j : Nat) : Int32 := ([1, 18, 274, 274, 274, 274, 274, 18, 17, 3, 785, 785, 1042, 1, 3, 0] : List Int32).getD j 0
/-- what stays the same during a method: names apart, the tables, the nest's links, the one static array -/
def xStat (D : va_G) (V : Nat → Nat → Prop) (la : Nat → Nat → Nat) (cyI cyF cyM : ClassId) (t0 : Nat) (U : State) (H : Heap) : Prop :=
  xD V la ∧ va_K D vwCl (xTys cyI cyF cyM) U ∧ va_Nw (.methodLinkNest RX3 25 yX8_isPlace RX8) U ∧ va_Nw (.methodLinkNest RX6 145 yX8_isPlace RX8) U ∧ va_Z RX0 "FORMS" "[I" (.ref t0) (xA V la) U H ∧ va_T .int t0 16 (fun j => .int (xForm j)) (xA V la) U H
def xPre (D : va_G) (V : Nat → Nat → Prop) (la : Nat → Nat → Nat) (Ef : xEf) (cyI cyF cyM : ClassId) (t0 : Nat) (st : xSt) (U : State) : Prop := HW D V la Ef st U.heap ∧ xStat D V la cyI cyF cyM t0 U U.heap
def xQc (D : va_G) (V : Nat → Nat → Prop) (la : Nat → Nat → Nat) (Ef : xEf) (res : Option Value) (st' : xSt) : Array Value → State → Outcome → State → Prop := fun _ s0 o t => o = .returned res ∧ HW D V la Ef st' t.heap ∧ va_F (xA V la) s0 t
def MetW (D : va_G) (V : Nat → Nat → Prop) (la : Nat → Nat → Nat) (Ef : xEf) (cyI cyF cyM : ClassId) (t0 : Nat) (l : Launch) (y : MethodName) (ws : List Cond) (rm : Room) (av : List Value) (res : Option Value) (st st' : xSt) : Prop :=
  Met l y ws rm (va_Pc av (xPre D V la Ef cyI cyF cyM t0 st)) (xQc D V la Ef res st') 0 0 (xA V la)
abbrev xCx (D : va_G) (V : Nat → Nat → Prop) (la : Nat → Nat → Nat) (cyI cyF cyM : ClassId) (t0 : Nat) (p : Program) (m : MethodId) (c : Code) (cc : ByteArray) (nL : Nat) (s : State) (args : Array Value) (own : String) : Prop :=
  CallFix p m c cc nL s args xALL own ∧ xStat D V la cyI cyF cyM t0 s s.heap
theorem xStat.moved {D : va_G} {V : Nat → Nat → Prop} {la : Nat → Nat → Nat} {cyI cyF cyM : ClassId} {t0 : Nat} {s U : State} {H H1 : Heap} (h : xStat D V la cyI cyF cyM t0 s H) (hW : s.WarmedH U.vm) (hq : ∀ a : Nat, a < H.size → ¬ xA V la a → H1[a]? = H[a]?) : xStat D V la cyI cyF cyM t0 U H1 := by
  obtain ⟨h1, h2, h3, h4, h5, h6⟩ := h
  exact ⟨h1, va_K.moved hW.alike h2, va_Nw.warmM hW h3, va_Nw.warmM hW h4, (va_Z.moved hW.alike h5).kept hq, (va_T.moved hW.alike h6).kept hq⟩
theorem xStat.same {D : va_G} {V : Nat → Nat → Prop} {la : Nat → Nat → Nat} {cyI cyF cyM : ClassId} {t0 : Nat} {s U : State} {H : Heap} (h : xStat D V la cyI cyF cyM t0 s H) (hv : s.vm = U.vm) : xStat D V la cyI cyF cyM t0 U H := by
  obtain ⟨h1, h2, h3, h4, h5, h6⟩ := h
  have ha : s.vm.Alike U.vm := by rw [hv]; exact Vm.Alike.refl _
  exact ⟨h1, va_K.moved ha h2, va_Nw.same rfl hv h3, va_Nw.same rfl hv h4, va_Z.moved ha h5, va_T.moved ha h6⟩
theorem xPre.blind {D : va_G} {V : Nat → Nat → Prop} {la : Nat → Nat → Nat} {Ef : xEf} {cyI cyF cyM : ClassId} {t0 : Nat} {st : xSt} {av : List Value} : FrameBlind (va_Pc av (xPre D V la Ef cyI cyF cyM t0 st)) := by
  intro a U g mk q
  exact ⟨q.1, q.2.1, xStat.same (s := U) (U := U.calling g mk a) q.2.2 rfl⟩
theorem HW.put {D : va_G} {V : Nat → Nat → Prop} {la : Nat → Nat → Nat} {Ef : xEf} {st : xSt} {H : Heap} {c i k : Nat} {v : Int32} {e : va_E} (h : xP D V la (xU (fun c i => Ef (st.1 c i) st.2 c i) c i e) H) (he : Ef (upd (st.1 c i) k v) st.2 c i = e) : HW D V la Ef (pI st c i k v) H := by
  refine h.to (fun c' i' _ => ?_)
  unfold xU pI
  by_cases hc : c' = c ∧ i' = i
  · rw [if_pos hc, hc.1, hc.2]
    simp only [and_self, if_true]
    exact he.symm
  · rw [if_neg hc]
    simp only [if_neg hc]
section XW
variable {p : Program} {l : Launch} {e : Env} {R : Room} {s : State} {m : MethodId} {args : Array Value} {below : List Frame} {meth : Method} {c : Code} {H : Heap} {locs : List Loc} {cells slots : Nat} {Q : State → Prop}
variable {cc : ByteArray} {nL pc : Nat} {ls : Array Slot} {rest : List Value} {D : va_G} {V : Nat → Nat → Prop} {la : Nat → Nat → Nat} {Ef : xEf} {cyI cyF cyM : ClassId} {t0 : Nat} {own : String} {st st' : xSt}
theorem MetW.intro {y : MethodName} {ret : Option FieldType} {rm : Room} {av : List Value} {res : Option Value} (hy : plainName y.cls = true) (hl : (lg_sl av).length ≤ nL) (hown : y.cls = own)
    (body : ∀ (p : Program) (e : Env) (s : State) (m : MethodId) (below : List Frame) (meth : Method) (c : Code), xCx D V la cyI cyF cyM t0 p m c cc nL s av.toArray own → meth.sig.returnType = ret → meth.locks = false → HW D V la Ef st s.heap → ∀ ls : Array Slot, lv_has ls nL (lv_args 0 av) →
      W p l e rm s m av.toArray below meth c s.heap [] 0 0 (MQ below (xQc D V la Ef res st') av.toArray s 0 0 (xA V la)) (F0 m 0 ls [])) : MetW D V la Ef cyI cyF cyM t0 l y (Cond.code y cc nL ret :: xALL) rm av res st st' := by
  refine Met.ofW (cc := cc) (maxL := nL) (ret := ret) hy rfl ?_
  intro p e s m args below meth c s₁ B hml hv
  obtain ⟨rfl, hP, hZ⟩ := hv
  have hts := atoms_spec (ws := Cond.code y cc nL ret :: xALL) B.pre
  have hfc : s.vm.findClass own = some m.cls := by rw [← hown]; exact findClass_of_methodNamed B.named
  have hl2 := lv_entry av (n := nL) hl
  rw [lg_entry_eq]
  exact body p e s m below meth c ⟨⟨B.exec, B.bytes, hml, hfc, fun w hw => hts w (List.mem_cons_of_mem _ hw)⟩, hZ⟩ B.returns B.notSynchronized hP _ hl2
theorem w_get (X : xCx D V la cyI cyF cyM t0 p m c cc nL s args own) (hP : HW D V la Ef st H) {c0 i0 : Nat} (hV : V c0 i0) {ci : Nat} {fs : List Value} (he : Ef (st.1 c0 i0) st.2 c0 i0 = .inr (ci, fs)) {C : String} {T : u_T} {N : Nat} (hc : vwCl[ci]? = some (C, T, N)) (hin : ∀ w ∈ u_ws C T N, w ∈ xALL) (k : Nat) (hk : k < N) {index : Nat} (hlink : Cond.fieldLink own index (T k).1 (T k).2.1 (T k).2.2.1 ∈ xALL) {v : Value} (hv : fs[k]? = some v) (hdg : decode cc pc = .ok (.getfield index, 3))
    (kk : W p l e R s m args below meth c H locs cells slots Q (F0 m (pc + 3) ls (v :: rest))) : W p l e R s m args below meth c H locs cells slots Q (F0 m pc ls (.ref (la c0 i0) :: rest)) :=
  x_get (E := fun c i => Ef (st.1 c i) st.2 c i) X.1.1 X.1.2.1 X.1.2.2.2.2 hin X.1.2.2.2.1 X.2.2.1 hP hV he hc k hk (X.1.2.2.2.2 _ hlink) hv hdg kk
theorem w_putI (X : xCx D V la cyI cyF cyM t0 p m c cc nL s args own) (hP : HW D V la Ef st H) (hS : va_S (xA V la) s.heap H locs) {c0 i0 : Nat} (hV : V c0 i0) {ci : Nat} {fs : List Value} (he : Ef (st.1 c0 i0) st.2 c0 i0 = .inr (ci, fs)) {C : String} {T : u_T} {N : Nat} (hc : vwCl[ci]? = some (C, T, N)) (hin : ∀ w ∈ u_ws C T N, w ∈ xALL) (ty0 : Nat → FieldType) (hty : ∀ k, k < N → parseFieldDescriptor (T k).2.2.1 = some (ty0 k)) (hnm : ∀ a, a < N → ∀ b, b < N → a ≠ b → (T a).2.1 ≠ (T b).2.1) (k : Nat) (hk : k < N) (hfin : (T k).2.2.2 = false) {ty : FieldType} {v : Int32} (hd : parseFieldDescriptor (T k).2.2.1 = some ty) (hn : narrow ty (.int v) = .int v) (hfit : fits ty (.int v) = true) (hl : k < fs.length) (hset : Ef (upd (st.1 c0 i0) k v) st.2 c0 i0 = .inr (ci, fs.set k (.int v))) {index : Nat} (hlink : Cond.fieldLink own index (T k).1 (T k).2.1 (T k).2.2.1 ∈ xALL) (hdg : decode cc pc = .ok (.putfield index, 3))
    (kk : ∀ (H1 : Heap) (locs1 : List Loc), HW D V la Ef (pI st c0 i0 k v) H1 → va_S (xA V la) s.heap H1 locs1 → W p l e R s m args below meth c H1 locs1 cells slots Q (F0 m (pc + 3) ls rest)) : W p l e R s m args below meth c H locs cells slots Q (F0 m pc ls (.int v :: .ref (la c0 i0) :: rest)) :=
  x_put (E := fun c i => Ef (st.1 c i) st.2 c i) X.1.1 X.1.2.1 X.1.2.2.2.2 hin ty0 hty hnm X.1.2.2.2.1 X.2.2.1 hP X.2.1 hS hV (xA_of hV) he hc k hk (X.1.2.2.2.2 _ hlink) hfin hd hn hfit hl hdg (fun H1 locs1 h hs => kk H1 locs1 (HW.put h hset) hs)
theorem w_iald (X : xCx D V la cyI cyF cyM t0 p m c cc nL s args own) (hP : HW D V la Ef st H) {c0 i0 : Nat} (hV : V c0 i0) {n : Nat} (he : Ef (st.1 c0 i0) st.2 c0 i0 = .inl (cyI, n, .inl (st.1 c0 i0))) {i : Int32} (hin : ¬ (i < 0 ∨ n ≤ i.toNatClampNeg)) (hdg : decode cc pc = .ok (.iaload, 1))
    (kk : W p l e R s m args below meth c H locs cells slots Q (F0 m (pc + 1) ls (.int (st.1 c0 i0 i.toNatClampNeg) :: rest))) : W p l e R s m args below meth c H locs cells slots Q (F0 m pc ls (.int i :: .ref (la c0 i0) :: rest)) :=
  x_iald (E := fun c i => Ef (st.1 c i) st.2 c i) X.1.1 X.1.2.1 X.2.2.1 hP 0 hV he rfl hin hdg kk
theorem w_iast (X : xCx D V la cyI cyF cyM t0 p m c cc nL s args own) (hP : HW D V la Ef st H) (hS : va_S (xA V la) s.heap H locs) {c0 i0 : Nat} (hV : V c0 i0) {n : Nat} (he : ∀ g : Nat → Int32, Ef g st.2 c0 i0 = .inl (cyI, n, .inl g)) {i x : Int32} (hin : ¬ (i < 0 ∨ n ≤ i.toNatClampNeg)) (hdg : decode cc pc = .ok (.iastore, 1))
    (kk : ∀ (H1 : Heap) (locs1 : List Loc), HW D V la Ef (pI st c0 i0 i.toNatClampNeg x) H1 → va_S (xA V la) s.heap H1 locs1 → W p l e R s m args below meth c H1 locs1 cells slots Q (F0 m (pc + 1) ls rest)) : W p l e R s m args below meth c H locs cells slots Q (F0 m pc ls (.int x :: .int i :: .ref (la c0 i0) :: rest)) :=
  x_iast (E := fun c i => Ef (st.1 c i) st.2 c i) X.1.1 X.1.2.1 X.2.2.1 hP X.2.1 hS 0 hV (xA_of hV) (he _) rfl hin hdg (fun H1 locs1 h hs => kk H1 locs1 (HW.put h (he _)) hs)
theorem w_top {v v' : Value} (h : v = v') (kk : W p l e R s m args below meth c H locs cells slots Q (F0 m pc ls (v' :: rest))) : W p l e R s m args below meth c H locs cells slots Q (F0 m pc ls (v :: rest)) := by rw [h]; exact kk
theorem w_stk {st0 st1 : List Value} (h : st0 = st1) (kk : W p l e R s m args below meth c H locs cells slots Q (F0 m pc ls st1)) : W p l e R s m args below meth c H locs cells slots Q (F0 m pc ls st0) := by rw [h]; exact kk
theorem w_forms (X : xCx D V la cyI cyF cyM t0 p m c cc nL s args own) (hS : va_S (xA V la) s.heap H locs) {index : Nat} (hlink : Cond.fieldLink own index RX0 "FORMS" "[I" ∈ xALL) (hdg : decode cc pc = .ok (.getstatic index, 3))
    (kk : W p l e R s m args below meth c H locs cells slots Q (F0 m (pc + 3) ls (.ref t0 :: rest))) : W p l e R s m args below meth c H locs cells slots Q (F0 m pc ls rest) :=
  va_gets X.1.1 X.1.2.1 X.2.2.2.2.2.1 hS X.1.2.2.2.1 (X.1.2.2.2.2 _ hlink) (fun _ h => h) hdg kk
theorem w_form (X : xCx D V la cyI cyF cyM t0 p m c cc nL s args own) (hS : va_S (xA V la) s.heap H locs) {i : Int32} (hin : ¬ (i < 0 ∨ 16 ≤ i.toNatClampNeg)) (hdg : decode cc pc = .ok (.iaload, 1))
    (kk : W p l e R s m args below meth c H locs cells slots Q (F0 m (pc + 1) ls (.int (xForm i.toNatClampNeg) :: rest))) : W p l e R s m args below meth c H locs cells slots Q (F0 m pc ls (.int i :: .ref t0 :: rest)) :=
  va_ti X.1.1 X.1.2.1 X.2.2.2.2.2.2 hS hin rfl hdg kk
theorem w_iret {v : Int32} (X : xCx D V la cyI cyF cyM t0 p m c cc nL s args own) (hr : meth.sig.returnType = some .int) (hlk : meth.locks = false) (hP : HW D V la Ef st' H) (hS : va_S (xA V la) s.heap H locs) (hdg : decode cc pc = .ok (.ireturn, 1)) : W p l e R s m args below meth c H locs 0 0 (MQ below (xQc D V la Ef (some (.int v)) st') args s 0 0 (xA V la)) (F0 m pc ls [.int v]) :=
  W.iret X.1.1 X.1.2.1 hr (fun t ht _ => ⟨rfl, by rw [ht]; exact hP, hS.F ht⟩) hS.2.2 hdg hlk
theorem w_zret {v : Int32} (X : xCx D V la cyI cyF cyM t0 p m c cc nL s args own) (hr : meth.sig.returnType = some .boolean) (hlk : meth.locks = false) (hn : v = 0 ∨ v = 1) (hP : HW D V la Ef st' H) (hS : va_S (xA V la) s.heap H locs) (hdg : decode cc pc = .ok (.ireturn, 1)) : W p l e R s m args below meth c H locs 0 0 (MQ below (xQc D V la Ef (some (.int v)) st') args s 0 0 (xA V la)) (F0 m pc ls [.int v]) :=
  W.zret X.1.1 X.1.2.1 hr (by rcases hn with rfl | rfl <;> rfl) (fun t ht _ => ⟨rfl, by rw [ht]; exact hP, hS.F ht⟩) hS.2.2 hdg hlk
theorem w_vret (X : xCx D V la cyI cyF cyM t0 p m c cc nL s args own) (hr : meth.sig.returnType = none) (hlk : meth.locks = false) (hP : HW D V la Ef st' H) (hS : va_S (xA V la) s.heap H locs) (hdg : decode cc pc = .ok (.return_, 1)) : W p l e R s m args below meth c H locs 0 0 (MQ below (xQc D V la Ef none st') args s 0 0 (xA V la)) (F0 m pc ls []) :=
  W.vret X.1.1 X.1.2.1 hr (fun t ht _ => ⟨rfl, by rw [ht]; exact hP, hS.F ht⟩) hS.2.2 hdg hlk
theorem w_aret {v : Value} {n : String} (X : xCx D V la cyI cyF cyM t0 p m c cc nL s args own) (hr : meth.sig.returnType = some (.object n)) (hlk : meth.locks = false) (hv : v = .null ∨ ∃ a, v = .ref a) (hP : HW D V la Ef st' H) (hS : va_S (xA V la) s.heap H locs) (hdg : decode cc pc = .ok (.areturn, 1)) : W p l e R s m args below meth c H locs 0 0 (MQ below (xQc D V la Ef (some v) st') args s 0 0 (xA V la)) (F0 m pc ls [v]) :=
  W.aret X.1.1 X.1.2.1 hr (Or.inl ⟨n, rfl⟩) hv (fun t ht _ => ⟨rfl, by rw [ht]; exact hP, hS.F ht⟩) hS.2.2 hdg hlk
theorem w_call {res : Option Value} {a : Array Value} {st0 : List Value} (hr : va_Run p l e R s m args below meth c H locs cells slots 0 0 (F0 m pc ls st0) rest (xQc D V la Ef res st' a) (xA V la)) (hS : va_S (xA V la) s.heap H locs)
    (kk : ∀ (H1 : Heap) (locs1 : List Loc), HW D V la Ef st' H1 → va_S (xA V la) s.heap H1 locs1 → W p l e R s m args below meth c H1 locs1 cells slots Q (F0 m (pc + 3) ls (res.toList ++ rest))) : W p l e R s m args below meth c H locs cells slots Q (F0 m pc ls st0) := by
  intro T hT X
  obtain ⟨v, st₀, t, T', L, h0, X', hL, e1, e2, ⟨hv, hP', hz, hk⟩, stp⟩ := hr T hT X
  cases hv
  rw [h0] at hz hk
  obtain ⟨t2, a1, b1⟩ := kk T'.heap (locs ++ L) (by rw [e1]; exact hP') ⟨Nat.le_trans hS.1 (by rw [e1]; exact hz), fun q h1 h2 => by rw [e1, hk q (Nat.lt_of_lt_of_le h1 hS.1) h2]; exact hS.2.1 q h1 h2, fun q hq => (List.mem_append.mp hq).elim (hS.2.2 q) (hL q)⟩ T' rfl X'
  exact ⟨t2, stp t2 a1, b1⟩
def xKv (y : MethodName) (bytes : ByteArray) (maxL : Nat) (ret : Option FieldType) (C : String) (n : Nat) : Prop := Cond.code y bytes maxL ret ∈ xALL ∧ Cond.instanceMethod y ∈ xALL ∧ Cond.selects C y y ∈ xALL ∧ Cond.initialized C ∈ xALL ∧ (y.cls = C ∧ y.cls ≠ "java/lang/invoke/MethodHandle" ∧ y.cls ≠ "java/lang/invoke/VarHandle" ∧ (parseMethodDescriptor y.desc).map (fun d => d.parameters.length) = some n)
def xKs (y : MethodName) (bytes : ByteArray) (maxL : Nat) (ret : Option FieldType) (C : String) (n : Nat) : Prop := Cond.code y bytes maxL ret ∈ xALL ∧ Cond.static y ∈ xALL ∧ Cond.initialized C ∈ xALL ∧ (y.cls = C ∧ y.cls ≠ "java/lang/invoke/MethodHandle" ∧ y.cls ≠ "java/lang/invoke/VarHandle" ∧ (parseMethodDescriptor y.desc).map (fun d => d.parameters.length) = some n)
theorem w_callV {y : MethodName} {bytes : ByteArray} {maxL n index b : Nat} {ret : Option FieldType} {C : String} {rm : Room} {As : List Value} {res : Option Value} (X : xCx D V la cyI cyF cyM t0 p m c cc nL s args own) (hM : MetW D V la Ef cyI cyF cyM t0 l y (Cond.code y bytes maxL ret :: xALL) rm (.ref b :: As) res st st') (hP : HW D V la Ef st H) (hS : va_S (xA V la) s.heap H locs) (K : xKv y bytes maxL ret C n) (hlink : Cond.methodLink own index y ∈ xALL) (hrc : rm.cells = 0) (hrs : rm.slots = 0) (hR : rm.frames + 1 ≤ R.frames ∧ 8 + (maxL + 11) + rm.locals ≤ R.locals) (hrecv : ∃ cell : Cell, H[b]? = some cell ∧ cell.vm.isStatics = false ∧ s.vm.findClass C = some cell.cls) (hn : As.length = n) (hsz : ls.size = nL) (hW : (rest.map fun v => v.category).sum ≤ 8) (hcs : cells ≤ R.cells ∧ slots ≤ R.slots) (hdg : decode cc pc = .ok (.invokevirtual index, 3))
    (kk : ∀ (H1 : Heap) (locs1 : List Loc), HW D V la Ef st' H1 → va_S (xA V la) s.heap H1 locs1 → W p l e R s m args below meth c H1 locs1 cells slots Q (F0 m (pc + 3) ls (res.toList ++ rest))) : W p l e R s m args below meth c H locs cells slots Q (F0 m pc ls (As.reverse ++ .ref b :: rest)) := by
  obtain ⟨k1, k2, k3, k4, k5, k6⟩ := K
  subst k5
  exact w_call (va_runV X.1 hM ⟨callB_of n X.1.2.2.2.2 (fun w h => ⟨(List.mem_cons.mp h).elim (fun z => z ▸ k1) id, (List.mem_cons.mp h).elim (fun z => xALL_good _ (z ▸ k1)) (xALL_good _)⟩) rfl hrc hrs (X.1.2.2.2.2 _ k4) (X.1.2.2.2.2 _ hlink) k6 hR, X.1.2.2.2.2 _ k2, X.1.2.2.2.2 _ k3⟩
    ⟨xPre.blind, hrecv, fun U hU hWm => ⟨rfl, by rw [hU]; exact hP, by rw [hU]; exact X.2.moved hWm hS.2.1⟩⟩ rfl hn hsz rfl (lv_room hW) hdg hcs) hS kk
theorem w_callS {y : MethodName} {bytes : ByteArray} {maxL n index : Nat} {ret : Option FieldType} {C : String} {rm : Room} {As : List Value} {res : Option Value} (X : xCx D V la cyI cyF cyM t0 p m c cc nL s args own) (hM : MetW D V la Ef cyI cyF cyM t0 l y (Cond.code y bytes maxL ret :: xALL) rm As res st st') (hP : HW D V la Ef st H) (hS : va_S (xA V la) s.heap H locs) (K : xKs y bytes maxL ret C n) (hlink : Cond.methodLink own index y ∈ xALL) (hrc : rm.cells = 0) (hrs : rm.slots = 0) (hR : rm.frames + 1 ≤ R.frames ∧ 8 + (maxL + 11) + rm.locals ≤ R.locals) (hn : As.length = n) (hsz : ls.size = nL) (hW : (rest.map fun v => v.category).sum ≤ 8) (hcs : cells ≤ R.cells ∧ slots ≤ R.slots) (hdg : decode cc pc = .ok (.invokestatic index, 3))
    (kk : ∀ (H1 : Heap) (locs1 : List Loc), HW D V la Ef st' H1 → va_S (xA V la) s.heap H1 locs1 → W p l e R s m args below meth c H1 locs1 cells slots Q (F0 m (pc + 3) ls (res.toList ++ rest))) : W p l e R s m args below meth c H locs cells slots Q (F0 m pc ls (As.reverse ++ rest)) := by
  obtain ⟨k1, k2, k4, k5, k6⟩ := K
  subst k5
  exact w_call (va_runS X.1 hM ⟨callB_of n X.1.2.2.2.2 (fun w h => ⟨(List.mem_cons.mp h).elim (fun z => z ▸ k1) id, (List.mem_cons.mp h).elim (fun z => xALL_good _ (z ▸ k1)) (xALL_good _)⟩) rfl hrc hrs (X.1.2.2.2.2 _ k4) (X.1.2.2.2.2 _ hlink) k6 hR, X.1.2.2.2.2 _ k2⟩
    ⟨xPre.blind, fun U hU hWm => ⟨rfl, by rw [hU]; exact hP, by rw [hU]; exact X.2.moved hWm hS.2.1⟩⟩ rfl hn hsz rfl (lv_room hW) hdg hcs) hS kk
theorem w_callN {y : MethodName} {bytes : ByteArray} {maxL n index : Nat} {ret : Option FieldType} {C host : String} {rm : Room} {As : List Value} {res : Option Value} (X : xCx D V la cyI cyF cyM t0 p m c cc nL s args own) (hM : MetW D V la Ef cyI cyF cyM t0 l y (Cond.code y bytes maxL ret :: xALL) rm As res st st') (hP : HW D V la Ef st H) (hS : va_S (xA V la) s.heap H locs) (K : xKs y bytes maxL ret C n) (hlink : va_Nw (.methodLinkNest own index y host) s) (hrc : rm.cells = 0) (hrs : rm.slots = 0) (hR : rm.frames + 1 ≤ R.frames ∧ 8 + (maxL + 11) + rm.locals ≤ R.locals) (hn : As.length = n) (hsz : ls.size = nL) (hW : (rest.map fun v => v.category).sum ≤ 8) (hcs : cells ≤ R.cells ∧ slots ≤ R.slots) (hdg : decode cc pc = .ok (.invokestatic index, 3))
    (kk : ∀ (H1 : Heap) (locs1 : List Loc), HW D V la Ef st' H1 → va_S (xA V la) s.heap H1 locs1 → W p l e R s m args below meth c H1 locs1 cells slots Q (F0 m (pc + 3) ls (res.toList ++ rest))) : W p l e R s m args below meth c H locs cells slots Q (F0 m pc ls (As.reverse ++ rest)) := by
  obtain ⟨k1, k2, k4, k5, k6⟩ := K
  subst k5
  exact w_call (va_runSN X.1 hM ⟨va_cnB n X.1.2.2.2.2 (fun w h => ⟨(List.mem_cons.mp h).elim (fun z => z ▸ k1) id, (List.mem_cons.mp h).elim (fun z => xALL_good _ (z ▸ k1)) (xALL_good _)⟩) rfl hrc hrs hlink (X.1.2.2.2.2 _ k4) k6 hR, X.1.2.2.2.2 _ k2, trivial⟩
    ⟨xPre.blind, fun U hU hWm => ⟨rfl, by rw [hU]; exact hP, by rw [hU]; exact X.2.moved hWm hS.2.1⟩⟩ rfl hn hsz rfl (lv_room hW) hdg hcs) hS kk
end XW
