/-! Constructors: a world that grows. `sz0`: all its cells are new since then. -/
def xVa (V : Nat → Nat → Prop) (c0 i0 : Nat) : Nat → Nat → Prop := fun c i => V c i ∨ (c = c0 ∧ i = i0)
def xLa (la : Nat → Nat → Nat) (c0 i0 a : Nat) : Nat → Nat → Nat := fun c i => if c = c0 ∧ i = i0 then a else la c i
def xNew (D : va_G) (sz0 : Nat) (V : Nat → Nat → Prop) (la : Nat → Nat → Nat) (E : xEn) (H : Heap) : Prop := xP D V la E H ∧ xD V la ∧ (∀ c i, V c i → sz0 ≤ la c i) ∧ sz0 ≤ H.size
theorem xNew.lt {D : va_G} {sz0 : Nat} {V : Nat → Nat → Prop} {la : Nat → Nat → Nat} {E : xEn} {H : Heap} (h : xNew D sz0 V la E H) {c i : Nat} (hV : V c i) : la c i < H.size := (h.1 c i hV).lt
theorem xNew.alloc {D : va_G} {sz0 a c0 i0 : Nat} {V : Nat → Nat → Prop} {la : Nat → Nat → Nat} {E : xEn} {e : va_E} {H H1 : Heap} (h : xNew D sz0 V la E H) (hn : ¬ V c0 i0) (ha : H.size = a) (hz : H1.size = a + 1) (ho : ∀ q : Nat, q < a → H1[q]? = H[q]?) (he : va_at D vwCl (a, e) H1) : xNew D sz0 (xVa V c0 i0) (xLa la c0 i0 a) (xU E c0 i0 e) H1 := by
  have hlt : ∀ c i, V c i → la c i < a := fun c i hV => by rw [← ha]; exact h.lt hV
  obtain ⟨hP, hD, hB, hS⟩ := h
  have hne : ∀ c i, V c i → ¬ (c = c0 ∧ i = i0) := fun c i hV z => hn (by rw [← z.1, ← z.2]; exact hV)
  refine ⟨fun c i hV => ?_, fun c i c' i' h1 h2 => ?_, fun c i hV => ?_, by omega⟩
  · unfold xLa xU
    rcases hV with hV | hV
    · rw [if_neg (hne c i hV), if_neg (hne c i hV)]
      exact (hP c i hV).kept (ho _ (hlt c i hV))
    · rw [if_pos hV, if_pos hV]
      exact he
  · unfold xLa
    rcases h1 with h1 | h1 <;> rcases h2 with h2 | h2
    · rw [if_neg (hne c i h1), if_neg (hne c' i' h2)]
      exact hD c i c' i' h1 h2
    · rw [if_neg (hne c i h1), if_pos h2]
      intro z
      have := hlt c i h1
      omega
    · rw [if_pos h1, if_neg (hne c' i' h2)]
      intro z
      have := hlt c' i' h2
      omega
    · intro _
      exact ⟨h1.1.trans h2.1.symm, h1.2.trans h2.2.symm⟩
  · unfold xLa
    rcases hV with hV | hV
    · rw [if_neg (hne c i hV)]
      exact hB c i hV
    · rw [if_pos hV]
      omega
theorem xNew.set {D : va_G} {sz0 c0 i0 : Nat} {V : Nat → Nat → Prop} {la : Nat → Nat → Nat} {E : xEn} {e : va_E} {H H1 : Heap} (h : xNew D sz0 V la E H) (hV : V c0 i0) (h1 : va_at D vwCl (la c0 i0, e) H1) (hz : H1.size = H.size) (oq : ∀ q : Nat, q ≠ la c0 i0 → H1[q]? = H[q]?) : xNew D sz0 V la (xU E c0 i0 e) H1 :=
  ⟨h.1.set h.2.1 hV h1 oq, h.2.1, h.2.2.1, by rw [hz]; exact h.2.2.2⟩
def iNest (U : State) : Prop := va_Nw (.methodLinkNest RX7 25 yX2_init RX8) U ∧ va_Nw (.methodLinkNest RX6 11 yX4_init RX8) U ∧ va_Nw (.methodLinkNest RX6 53 yX1_init RX8) U ∧ va_AO "MadeCalls$Made" U ∧ va_AO "MadeCalls$Frame" U
theorem iNest.moved {s U : State} (h : iNest s) (hW : s.WarmedH U.vm) : iNest U := ⟨va_Nw.warmM hW h.1, va_Nw.warmM hW h.2.1, va_Nw.warmM hW h.2.2.1, va_AO.moved hW.alike h.2.2.2.1, va_AO.moved hW.alike h.2.2.2.2⟩
theorem iNest.same {s U : State} (h : iNest s) (hv : s.vm = U.vm) : iNest U := by
  have ha : s.vm.Alike U.vm := by rw [hv]; exact Vm.Alike.refl _
  exact ⟨va_Nw.same rfl hv h.1, va_Nw.same rfl hv h.2.1, va_Nw.same rfl hv h.2.2.1, va_AO.moved ha h.2.2.2.1, va_AO.moved ha h.2.2.2.2⟩
def iPre (D : va_G) (cyI cyF cyM : ClassId) (sz0 : Nat) (V : Nat → Nat → Prop) (la : Nat → Nat → Nat) (E : xEn) (U : State) : Prop := xNew D sz0 V la E U.heap ∧ va_K D vwCl (xTys cyI cyF cyM) U ∧ iNest U
def iQc (D : va_G) (sz0 : Nat) (post : (Nat → Nat → Prop) → (Nat → Nat → Nat) → xEn → Prop) : Array Value → State → Outcome → State → Prop := fun _ s0 o t => o = .returned none ∧ (∃ V' la' E', xNew D sz0 V' la' E' t.heap ∧ post V' la' E') ∧ va_F (fun q => sz0 ≤ q) s0 t
def MetI (D : va_G) (cyI cyF cyM : ClassId) (sz0 : Nat) (l : Launch) (y : MethodName) (ws : List Cond) (rm : Room) (av : List Value) (V : Nat → Nat → Prop) (la : Nat → Nat → Nat) (E : xEn) (post : (Nat → Nat → Prop) → (Nat → Nat → Nat) → xEn → Prop) : Prop :=
  Met l y ws rm (va_Pc av (iPre D cyI cyF cyM sz0 V la E)) (iQc D sz0 post) rm.cells rm.slots (fun q => sz0 ≤ q)
abbrev iCx (D : va_G) (cyI cyF cyM : ClassId) (p : Program) (m : MethodId) (meth : Method) (c : Code) (cc : ByteArray) (nL : Nat) (s : State) (args : Array Value) (own : String) : Prop :=
  CallFix p m c cc nL s args xALL own ∧ va_K D vwCl (xTys cyI cyF cyM) s ∧ iNest s ∧ meth.name = "<init>" ∧ meth.sig.returnType = none ∧ meth.locks = false
theorem iPre.blind {D : va_G} {cyI cyF cyM : ClassId} {sz0 : Nat} {V : Nat → Nat → Prop} {la : Nat → Nat → Nat} {E : xEn} {av : List Value} : FrameBlind (va_Pc av (iPre D cyI cyF cyM sz0 V la E)) := by
  intro a U g mk q
  exact ⟨q.1, q.2.1, va_K.moved (u := U) (U := U.calling g mk a) (Vm.Alike.refl U.vm) q.2.2.1, iNest.same (s := U) (U := U.calling g mk a) q.2.2.2 rfl⟩
section XI
variable {p : Program} {l : Launch} {e : Env} {R : Room} {s : State} {m : MethodId} {args : Array Value} {below : List Frame} {meth : Method} {c : Code} {H : Heap} {locs : List Loc} {cells slots : Nat} {Q : State → Prop}
variable {cc : ByteArray} {nL pc : Nat} {ls : Array Slot} {rest : List Value} {D : va_G} {V : Nat → Nat → Prop} {la : Nat → Nat → Nat} {E : xEn} {cyI cyF cyM : ClassId} {sz0 : Nat} {own : String} {H0 : Heap}
theorem MetI.intro {y : MethodName} {rm : Room} {av : List Value} {post : (Nat → Nat → Prop) → (Nat → Nat → Nat) → xEn → Prop} (hy : plainName y.cls = true) (hyn : y.name = "<init>") (hl : (lg_sl av).length ≤ nL) (hown : y.cls = own)
    (body : ∀ (p : Program) (e : Env) (s : State) (m : MethodId) (below : List Frame) (meth : Method) (c : Code), iCx D cyI cyF cyM p m meth c cc nL s av.toArray own → xNew D sz0 V la E s.heap → ∀ ls : Array Slot, lv_has ls nL (lv_args 0 av) →
      W p l e rm s m av.toArray below meth c s.heap [] 0 0 (MQ below (iQc D sz0 post) av.toArray s rm.cells rm.slots (fun q => sz0 ≤ q)) (F0 m 0 ls [])) : MetI D cyI cyF cyM sz0 l y (Cond.code y cc nL none :: xALL) rm av V la E post := by
  refine Met.ofW (cc := cc) (maxL := nL) (ret := none) hy rfl ?_
  intro p e s m args below meth c s₁ B hml hv
  obtain ⟨rfl, hP, hK, hN⟩ := hv
  have hts := atoms_spec (ws := Cond.code y cc nL none :: xALL) B.pre
  have hfc : s.vm.findClass own = some m.cls := by rw [← hown]; exact findClass_of_methodNamed B.named
  have hl2 := lv_entry av (n := nL) hl
  rw [lg_entry_eq]
  exact body p e s m below meth c ⟨⟨B.exec, B.bytes, hml, hfc, fun w hw => hts w (List.mem_cons_of_mem _ hw)⟩, hK, hN, (name_of_methodNamed B.named B.method).1.trans hyn, B.returns, B.notSynchronized⟩ hP _ hl2
theorem i_obj (X : iCx D cyI cyF cyM p m meth c cc nL s args own) {a : Nat} {idx : Nat} (hlink : Cond.methodLink own idx objectInit ∈ xALL) (hsz : ls.size = nL) (hW : (rest.map fun v => v.category).sum + 12 ≤ R.locals) (hf : 1 ≤ R.frames) (hdg : decode cc pc = .ok (.invokespecial idx, 3))
    (kk : W p l e R s m args below meth c H locs cells slots Q (F0 m (pc + 3) ls rest)) : W p l e R s m args below meth c H locs cells slots Q (F0 m pc ls (.ref a :: rest)) := by
  refine W.objInit X.1.1 X.1.2.1 X.1.2.2.2.1 (X.1.2.2.2.2 _ hlink) (X.1.2.2.2.2 _ im_objectInit) (X.1.2.2.2.2 _ cd_objectInit) rfl (hsz.trans X.1.2.2.1.symm) rfl hdg hf (by show 2 * 0 + _ + 12 ≤ _; omega) kk
theorem i_newi (X : iCx D cyI cyF cyM p m meth c cc nL s args own) (hN : xNew D sz0 V la E H) (hS : va_S (fun q => sz0 ≤ q) H0 H locs) (c0 i0 : Nat) (hnew : ¬ V c0 i0) {n : Int32} (N' : Nat) (hn : ¬ n < 0) (hN' : n.toNatClampNeg = N') (hbytes : N' * 4 ≤ 536870912) (hcells : cells + 1 ≤ R.cells) (hslots : slots + N' ≤ R.slots) (hdg : decode cc pc = .ok (.newarray .int, 2))
    (kk : ∀ (a : Nat) (H1 : Heap), H.size = a → xNew D sz0 (xVa V c0 i0) (xLa la c0 i0 a) (xU E c0 i0 (.inl (cyI, N', .inl (fun _ => 0)))) H1 → va_S (fun q => sz0 ≤ q) H0 H1 locs → W p l e R s m args below meth c H1 locs (cells + 1) (slots + N') Q (F0 m (pc + 2) ls (.ref a :: rest))) : W p l e R s m args below meth c H locs cells slots Q (F0 m pc ls (.int n :: rest)) := by
  refine va_newaK (atype := .int) X.1.1 X.1.2.1 (X.1.2.2.2.2 _ ac_int) rfl hdg rfl hn hN' hbytes hcells hslots rfl fun H1 cA e1 z1 o1 hAr hNm => ?_
  have hcA : cA = cyI := by
    have h2 := (X.2.1.2 0 (cyI, .int) rfl).2
    exact Option.some.inj (hNm.symm.trans h2)
  subst hcA
  exact kk H.size H1 rfl (hN.alloc hnew rfl z1 o1 e1) ⟨Nat.le_trans hS.1 (by omega), fun x h1 h2 => (o1 x (Nat.lt_of_lt_of_le h1 hS.1)).trans (hS.2.1 x h1 h2), hS.2.2⟩
theorem i_newr (X : iCx D cyI cyF cyM p m meth c cc nL s args own) (hN : xNew D sz0 V la E H) (hS : va_S (fun q => sz0 ≤ q) H0 H locs) (c0 i0 : Nat) (hnew : ¬ V c0 i0) {C : String} {cA : ClassId} (t0 : Nat) (ht : (xTys cyI cyF cyM)[t0]? = some (cA, .object C)) (hover : va_AO C s) {index : Nat} (hcl : Cond.classLink own index C ∈ xALL) {n : Int32} (N' : Nat) (hn : ¬ n < 0) (hN' : n.toNatClampNeg = N') (hbytes : N' * 4 ≤ 536870912) (hcells : cells + 1 ≤ R.cells) (hslots : slots + N' ≤ R.slots) (hdg : decode cc pc = .ok (.anewarray index, 3))
    (kk : ∀ (a : Nat) (H1 : Heap), H.size = a → xNew D sz0 (xVa V c0 i0) (xLa la c0 i0 a) (xU E c0 i0 (.inl (cA, N', .inr (.inr (.inr (.inr (fun _ => none))))))) H1 → va_S (fun q => sz0 ≤ q) H0 H1 locs → W p l e R s m args below meth c H1 locs (cells + 1) (slots + N') Q (F0 m (pc + 3) ls (.ref a :: rest))) : W p l e R s m args below meth c H locs cells slots Q (F0 m pc ls (.int n :: rest)) := by
  subst hN'
  refine W.anew X.1.1 X.1.2.1 X.1.2.2.2.1 (X.1.2.2.2.2 _ hcl) (va_AO.use hover) rfl hdg rfl hn hbytes hcells hslots fun cA' kA comp f1 f2 f3 f4 => ?_
  have hcA : cA' = cA := by
    obtain ⟨_, _, _, _, _, h4⟩ := (X.2.1.2 t0 (cA, .object C) ht).2
    exact Option.some.inj (f1.symm.trans h4)
  subst hcA
  generalize hH1 : H.push ({ cls := cA', slots := Array.replicate n.toNatClampNeg .null, vm := .none } : Cell) = H1
  have z1 : H1.size = H.size + 1 := by rw [← hH1, Array.size_push]
  have e1 : H1[H.size]? = some (arrV cA' n.toNatClampNeg (fun _ => .null)) := by rw [← hH1, Array.getElem?_push_size, ← arrV_new]
  have o1 : ∀ q : Nat, q < H.size → H1[q]? = H[q]? := fun q hq => by rw [← hH1, Array.getElem?_push, if_neg (Nat.ne_of_lt hq)]
  exact kk H.size H1 rfl (hN.alloc hnew rfl z1 o1 e1) ⟨Nat.le_trans hS.1 (by omega), fun x h1 h2 => (o1 x (Nat.lt_of_lt_of_le h1 hS.1)).trans (hS.2.1 x h1 h2), hS.2.2⟩
theorem i_new (X : iCx D cyI cyF cyM p m meth c cc nL s args own) (hN : xNew D sz0 V la E H) (hS : va_S (fun q => sz0 ≤ q) H0 H locs) (c0 i0 : Nat) (hnew : ¬ V c0 i0) {C : String} {T : u_T} {N ci : Nat} (hc : vwCl[ci]? = some (C, T, N)) (hin : ∀ w ∈ u_ws C T N, w ∈ xALL) (ty : Nat → FieldType) (hty : ∀ k, k < N → parseFieldDescriptor (T k).2.2.1 = some (ty k)) {index : Nat} (hcl : Cond.classLink own index C ∈ xALL) (hit : Cond.instantiable C N ∈ xALL) (hini : Cond.initialized C ∈ xALL) (fs : List Value) (hfs : ∀ j, j < N → defaultValue (ty j) = vp_V fs j) (hcells : cells + 1 ≤ R.cells) (hslots : slots + N ≤ R.slots) (hdg : decode cc pc = .ok (.new index, 3))
    (kk : ∀ (a : Nat) (H1 : Heap), H.size = a → xNew D sz0 (xVa V c0 i0) (xLa la c0 i0 a) (xU E c0 i0 (.inr (ci, fs))) H1 → va_S (fun q => sz0 ≤ q) H0 H1 locs → W p l e R s m args below meth c H1 locs (cells + 1) (slots + N) Q (F0 m (pc + 3) ls (.ref a :: rest))) : W p l e R s m args below meth c H locs cells slots Q (F0 m pc ls rest) := by
  have hKn := X.2.1.1 ci _ hc
  refine W.newcK X.1.1 X.1.2.1 X.1.2.2.2.1 (X.1.2.2.2.2 _ hcl) (X.1.2.2.2.2 _ hit) (X.1.2.2.2.2 _ hini) rfl hdg hcells hslots hKn.2.1 rfl fun H1 kC hkC e1 z1 o1 => ?_
  exact kk H.size H1 rfl (hN.alloc hnew rfl z1 o1 ⟨_, hc, (u_born ty X.1.2.2.2.2 hin hKn hkC e1 hty).to hfs⟩) ⟨Nat.le_trans hS.1 (by omega), fun x h1 h2 => (o1 x (Nat.lt_of_lt_of_le h1 hS.1)).trans (hS.2.1 x h1 h2), hS.2.2⟩
theorem i_get (X : iCx D cyI cyF cyM p m meth c cc nL s args own) (hN : xNew D sz0 V la E H) {c0 i0 a : Nat} (hV : V c0 i0) (ha : la c0 i0 = a) {ci : Nat} {fs : List Value} (he : E c0 i0 = .inr (ci, fs)) {C : String} {T : u_T} {N : Nat} (hc : vwCl[ci]? = some (C, T, N)) (hin : ∀ w ∈ u_ws C T N, w ∈ xALL) (k : Nat) (hk : k < N) {index : Nat} (hlink : Cond.fieldLink own index (T k).1 (T k).2.1 (T k).2.2.1 ∈ xALL) {v : Value} (hv : fs[k]? = some v) (hdg : decode cc pc = .ok (.getfield index, 3))
    (kk : W p l e R s m args below meth c H locs cells slots Q (F0 m (pc + 3) ls (v :: rest))) : W p l e R s m args below meth c H locs cells slots Q (F0 m pc ls (.ref a :: rest)) := by
  subst ha
  exact x_get X.1.1 X.1.2.1 X.1.2.2.2.2 hin X.1.2.2.2.1 X.2.1 hN.1 hV he hc k hk (X.1.2.2.2.2 _ hlink) hv hdg kk
theorem i_put (X : iCx D cyI cyF cyM p m meth c cc nL s args own) (hN : xNew D sz0 V la E H) (hS : va_S (fun q => sz0 ≤ q) H0 H locs) {c0 i0 a : Nat} (hV : V c0 i0) (ha : la c0 i0 = a) {ci : Nat} {fs : List Value} (he : E c0 i0 = .inr (ci, fs)) {C : String} {T : u_T} {N : Nat} (hc : vwCl[ci]? = some (C, T, N)) (hin : ∀ w ∈ u_ws C T N, w ∈ xALL) (ty0 : Nat → FieldType) (hty : ∀ k, k < N → parseFieldDescriptor (T k).2.2.1 = some (ty0 k)) (hnm : ∀ a, a < N → ∀ b, b < N → a ≠ b → (T a).2.1 ≠ (T b).2.1) (k : Nat) (hk : k < N) {index : Nat} (hlink : Cond.fieldLink own index (T k).1 (T k).2.1 (T k).2.2.1 ∈ xALL) (hdecl : (T k).1 = own) {ty : FieldType} {v : Value} (hd : parseFieldDescriptor (T k).2.2.1 = some ty) (hn : narrow ty v = v) (hfit : fits ty v = true) (hl : k < fs.length) (hdg : decode cc pc = .ok (.putfield index, 3))
    (kk : ∀ (H1 : Heap) (locs1 : List Loc), xNew D sz0 V la (xU E c0 i0 (.inr (ci, fs.set k v))) H1 → va_S (fun q => sz0 ≤ q) H0 H1 locs1 → W p l e R s m args below meth c H1 locs1 cells slots Q (F0 m (pc + 3) ls rest)) : W p l e R s m args below meth c H locs cells slots Q (F0 m pc ls (v :: .ref a :: rest)) := by
  subst ha
  have hap := va_apart (own := own) X.1.2.2.2.2 hin ty0 hty hnm X.2.1 hc
  have h0 := hN.1 c0 i0 hV
  rw [he] at h0
  obtain ⟨r, h1, cell, q1, q2, q3, q4⟩ := h0
  have hr : r = (C, T, N) := Option.some.inj (h1.symm.trans hc)
  subst hr
  obtain ⟨hSl, hfc, kC, hkC, hkind⟩ := X.2.1.1 ci _ hc
  obtain ⟨cf, kf, fi, f, hi, hsl⟩ := hSl k hk
  have hlay := X.1.2.2.2.2 _ (hin _ (u_in_lay hk))
  have hst := (u_facts hfc hkC (u_lays X.1.2.2.2.2 hin hk) hi).1
  by_cases hfin : (T k).2.2.2 = true
  · unfold u_lay at hlay
    rw [if_pos hfin] at hlay
    have hcf : m.cls = cf := by
      obtain ⟨_, _, c', _, _, _, -, -, hf', -, -, -, hown2, -⟩ := Cond.laysFinal_spec hlay
      have e1 : c' = cf := by have := hi.symm.trans hf'; simp at this; exact this.1.symm
      rw [hdecl] at hown2
      rw [← e1]; exact Option.some.inj (X.1.2.2.2.1.symm.trans hown2)
    have h6 := u_fits hfc hkC hkind (Or.inr hlay) hi hd hn hfit
    refine W.putFinK X.1.1 X.1.2.1 X.1.2.2.2.1 (X.1.2.2.2.2 _ hlink) hi hst hcf X.2.2.2.1 (by rw [q2]; exact h6) q1 q3 (by rw [hsl]; exact k2_hasslot (q4 k hk)) rfl rfl hdg fun H' e1 e2 e3 => ?_
    rw [hsl] at e1 ⊢
    exact kk H' _ (hN.set hV ⟨_, hc, t_OB.to (V := updV (vp_V fs) k v) ⟨_, e1, q2, q3, t_set q4 hap hk v⟩ (fun j _ => vp_updV_set hl v j)⟩ e2 e3) (hS.put e2 e3 (hN.2.2.1 c0 i0 hV))
  · unfold u_lay at hlay
    rw [if_neg hfin] at hlay
    have h6 := u_store hfc hkC hkind hlay hi hd hn hfit
    refine W.putK X.1.1 X.1.2.1 (f := f) ⟨X.1.2.2.2.1, X.1.2.2.2.2 _ hlink, ⟨_, _, _, hi⟩, hst⟩ (by rw [q2]; exact h6) q1 q3 (by rw [hsl]; exact k2_hasslot (q4 k hk)) rfl rfl hdg fun H' e1 e2 e3 => ?_
    rw [hsl] at e1 ⊢
    exact kk H' _ (hN.set hV ⟨_, hc, t_OB.to (V := updV (vp_V fs) k v) ⟨_, e1, q2, q3, t_set q4 hap hk v⟩ (fun j _ => vp_updV_set hl v j)⟩ e2 e3) (hS.put e2 e3 (hN.2.2.1 c0 i0 hV))
theorem i_aast (X : iCx D cyI cyF cyM p m meth c cc nL s args own) (hN : xNew D sz0 V la E H) (hS : va_S (fun q => sz0 ≤ q) H0 H locs) (t0 ci : Nat) {c0 i0 c1 i1 a a1 : Nat} (hV : V c0 i0) (ha : la c0 i0 = a) (hV1 : V c1 i1) (ha1 : la c1 i1 = a1) {cA : ClassId} {r : vw_C} {n : Nat} {vs : List Value} {f : Nat → Option Nat} (he : E c0 i0 = .inl (cA, n, .inr (.inr (.inr (.inr f))))) (ht : (xTys cyI cyF cyM)[t0]? = some (cA, .object r.1)) (hv : E c1 i1 = .inr (ci, vs)) (hc : vwCl[ci]? = some r) {i : Int32} (hin : vp_in i n) (hdg : decode cc pc = .ok (.aastore, 1))
    (kk : ∀ (H1 : Heap) (locs1 : List Loc), xNew D sz0 V la (xU E c0 i0 (.inl (cA, n, .inr (.inr (.inr (.inr (va_up f i.toNatClampNeg (some a1)))))))) H1 → va_S (fun q => sz0 ≤ q) H0 H1 locs1 → W p l e R s m args below meth c H1 locs1 cells slots Q (F0 m (pc + 1) ls rest)) : W p l e R s m args below meth c H locs cells slots Q (F0 m pc ls (.ref a1 :: .int i :: .ref a :: rest)) := by
  subst ha; subst ha1
  exact x_aast X.1.1 X.1.2.1 X.2.1 hN.1 hN.2.1 hS t0 ci hV (hN.2.2.1 c0 i0 hV) hV1 he ht hv hc hin hdg (fun H1 locs1 h1 h2 => kk H1 locs1 ⟨h1, hN.2.1, hN.2.2.1, by
    have := h1 c0 i0 hV
    have := h2.1
    exact Nat.le_trans (hN.2.2.1 c0 i0 hV) (Nat.le_of_lt (h1 c0 i0 hV).lt)⟩ h2)
theorem i_ret {rm : Room} {post : (Nat → Nat → Prop) → (Nat → Nat → Nat) → xEn → Prop} (X : iCx D cyI cyF cyM p m meth c cc nL s args own) (hN : xNew D sz0 V la E H) (hS : va_S (fun q => sz0 ≤ q) s.heap H locs) (hp : post V la E) (hc : cells ≤ rm.cells) (hs : slots ≤ rm.slots) (hdg : decode cc pc = .ok (.return_, 1)) : W p l e R s m args below meth c H locs cells slots (MQ below (iQc D sz0 post) args s rm.cells rm.slots (fun q => sz0 ≤ q)) (F0 m pc ls []) := by
  refine W.widen (k := rm.cells) (n := rm.slots) hc hs ?_
  exact W.vret X.1.1 X.1.2.1 X.2.2.2.2.1 (fun t ht _ => ⟨rfl, ⟨V, la, E, by rw [ht]; exact hN, hp⟩, hS.F ht⟩) hS.2.2 hdg X.2.2.2.2.2
theorem i_run {post : (Nat → Nat → Prop) → (Nat → Nat → Nat) → xEn → Prop} {a : Array Value} {st0 : List Value} {mc ms : Nat} (hr : va_Run p l e R s m args below meth c H locs cells slots mc ms (F0 m pc ls st0) rest (iQc D sz0 post a) (fun q => sz0 ≤ q)) (hS : va_S (fun q => sz0 ≤ q) H0 H locs)
    (kk : ∀ (V' : Nat → Nat → Prop) (la' : Nat → Nat → Nat) (E' : xEn) (H1 : Heap) (locs1 : List Loc), xNew D sz0 V' la' E' H1 → post V' la' E' → va_S (fun q => sz0 ≤ q) H0 H1 locs1 → W p l e R s m args below meth c H1 locs1 (cells + mc) (slots + ms) Q (F0 m (pc + 3) ls rest)) : W p l e R s m args below meth c H locs cells slots Q (F0 m pc ls st0) := by
  intro T hT X
  obtain ⟨v, st₀, t, T', L, h0, X', hL, e1, e2, ⟨hv, ⟨V', la', E', hN', hp⟩, hz, hk⟩, stp⟩ := hr T hT X
  cases hv
  rw [h0] at hz hk
  obtain ⟨t2, a1, b1⟩ := kk V' la' E' T'.heap (locs ++ L) (by rw [e1]; exact hN') hp ⟨Nat.le_trans hS.1 (by rw [e1]; exact hz), fun q h1 h2 => by rw [e1, hk q (Nat.lt_of_lt_of_le h1 hS.1) h2]; exact hS.2.1 q h1 h2, fun q hq => (List.mem_append.mp hq).elim (hS.2.2 q) (hL q)⟩ T' rfl X'
  exact ⟨t2, stp t2 a1, b1⟩
def xKi (y : MethodName) (bytes : ByteArray) (maxL : Nat) (n : Nat) : Prop := Cond.code y bytes maxL none ∈ xALL ∧ Cond.instanceMethod y ∈ xALL ∧ Cond.initialized y.cls ∈ xALL ∧ y.name = "<init>" ∧ (y.cls ≠ "java/lang/invoke/MethodHandle" ∧ y.cls ≠ "java/lang/invoke/VarHandle" ∧ (parseMethodDescriptor y.desc).map (fun d => d.parameters.length) = some n)
theorem i_callI {y : MethodName} {bytes : ByteArray} {maxL n index b : Nat} {rm : Room} {As : List Value} {st0 : List Value} {post : (Nat → Nat → Prop) → (Nat → Nat → Nat) → xEn → Prop} (X : iCx D cyI cyF cyM p m meth c cc nL s args own) (hM : MetI D cyI cyF cyM sz0 l y (Cond.code y bytes maxL none :: xALL) rm (.ref b :: As) V la E post) (hN : xNew D sz0 V la E H) (hS : va_S (fun q => sz0 ≤ q) H0 H locs) (hstk : st0 = As.reverse ++ .ref b :: rest) (K : xKi y bytes maxL n) (hlink : Cond.methodLink own index y ∈ xALL) (hR : rm.frames + 1 ≤ R.frames ∧ 8 + (maxL + 11) + rm.locals ≤ R.locals) (hn : As.length = n) (hsz : ls.size = nL) (hW : (rest.map fun v => v.category).sum ≤ 8) (hcs : cells + rm.cells ≤ R.cells ∧ slots + rm.slots ≤ R.slots) (hdg : decode cc pc = .ok (.invokespecial index, 3))
    (kk : ∀ (V' : Nat → Nat → Prop) (la' : Nat → Nat → Nat) (E' : xEn) (H1 : Heap) (locs1 : List Loc), xNew D sz0 V' la' E' H1 → post V' la' E' → va_S (fun q => sz0 ≤ q) H0 H1 locs1 → W p l e R s m args below meth c H1 locs1 (cells + rm.cells) (slots + rm.slots) Q (F0 m (pc + 3) ls rest)) : W p l e R s m args below meth c H locs cells slots Q (F0 m pc ls st0) := by
  obtain ⟨k1, k2, k3, k4, k5⟩ := K
  subst hstk
  exact i_run (va_runI X.1 hM ⟨callB_of n X.1.2.2.2.2 (fun w h => ⟨(List.mem_cons.mp h).elim (fun z => z ▸ k1) id, (List.mem_cons.mp h).elim (fun z => xALL_good _ (z ▸ k1)) (xALL_good _)⟩) rfl rfl rfl (X.1.2.2.2.2 _ k3) (X.1.2.2.2.2 _ hlink) k5 hR, k4, X.1.2.2.2.2 _ k2⟩
    ⟨iPre.blind, fun U hU hWm => ⟨rfl, by rw [hU]; exact hN, va_K.moved hWm.alike X.2.1, X.2.2.1.moved hWm⟩⟩ rfl hn hsz rfl (lv_room hW) hdg hcs) hS kk
theorem i_callN {y : MethodName} {bytes : ByteArray} {maxL n index b : Nat} {host : String} {rm : Room} {As : List Value} {st0 : List Value} {post : (Nat → Nat → Prop) → (Nat → Nat → Nat) → xEn → Prop} (X : iCx D cyI cyF cyM p m meth c cc nL s args own) (hM : MetI D cyI cyF cyM sz0 l y (Cond.code y bytes maxL none :: xALL) rm (.ref b :: As) V la E post) (hN : xNew D sz0 V la E H) (hS : va_S (fun q => sz0 ≤ q) H0 H locs) (hstk : st0 = As.reverse ++ .ref b :: rest) (K : xKi y bytes maxL n) (hlink : va_Nw (.methodLinkNest own index y host) s) (hR : rm.frames + 1 ≤ R.frames ∧ 8 + (maxL + 11) + rm.locals ≤ R.locals) (hn : As.length = n) (hsz : ls.size = nL) (hW : (rest.map fun v => v.category).sum ≤ 8) (hcs : cells + rm.cells ≤ R.cells ∧ slots + rm.slots ≤ R.slots) (hdg : decode cc pc = .ok (.invokespecial index, 3))
    (kk : ∀ (V' : Nat → Nat → Prop) (la' : Nat → Nat → Nat) (E' : xEn) (H1 : Heap) (locs1 : List Loc), xNew D sz0 V' la' E' H1 → post V' la' E' → va_S (fun q => sz0 ≤ q) H0 H1 locs1 → W p l e R s m args below meth c H1 locs1 (cells + rm.cells) (slots + rm.slots) Q (F0 m (pc + 3) ls rest)) : W p l e R s m args below meth c H locs cells slots Q (F0 m pc ls st0) := by
  obtain ⟨k1, k2, k3, k4, k5⟩ := K
  subst hstk
  exact i_run (va_runIN X.1 hM ⟨va_cnB n X.1.2.2.2.2 (fun w h => ⟨(List.mem_cons.mp h).elim (fun z => z ▸ k1) id, (List.mem_cons.mp h).elim (fun z => xALL_good _ (z ▸ k1)) (xALL_good _)⟩) rfl rfl rfl hlink (X.1.2.2.2.2 _ k3) k5 hR, k4, X.1.2.2.2.2 _ k2⟩
    ⟨iPre.blind, fun U hU hWm => ⟨rfl, by rw [hU]; exact hN, va_K.moved hWm.alike X.2.1, X.2.2.1.moved hWm⟩⟩ rfl hn hsz rfl (lv_room hW) hdg hcs) hS kk
end XI
