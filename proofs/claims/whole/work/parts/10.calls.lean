/-! the call rules as the walks use them: with an answer, and without -/
def bd {α β : Type} (a : Option (α × xSt)) (k : α → xSt → Option β) : Option β := match a with
  | none => none
  | some r => k r.1 r.2
theorem bd_2 {α β : Type} {a : Option (α × xSt)} {k : α → xSt → Option β} {r : β} (h : bd a k = some r) : ∃ v st, a = some (v, st) ∧ k v st = some r := by
  cases a with
  | none => cases h
  | some x => exact ⟨x.1, x.2, rfl, h⟩
theorem sp_2 {α : Type} {a b : α} {s t : xSt} (h : some (a, s) = some (b, t)) : a = b ∧ s = t := by cases h; exact ⟨rfl, rfl⟩
section XK
variable {p : Program} {l : Launch} {e : Env} {R : Room} {s : State} {m : MethodId} {args : Array Value} {below : List Frame} {meth : Method} {c : Code} {H : Heap} {locs : List Loc} {cells slots : Nat} {Q : State → Prop}
variable {cc : ByteArray} {nL pc : Nat} {ls : Array Slot} {rest : List Value} {D : va_G} {V : Nat → Nat → Prop} {la : Nat → Nat → Nat} {Ef : xEf} {cyI cyF cyM : ClassId} {t0 : Nat} {own : String} {st st' : xSt}
theorem w_V1 {y : MethodName} {bytes : ByteArray} {maxL n index b : Nat} {ret : Option FieldType} {C : String} {rm : Room} {As : List Value} {v : Value} {st0 : List Value} (X : xCx D V la cyI cyF cyM t0 p m c cc nL s args own) (hM : MetW D V la Ef cyI cyF cyM t0 l y (Cond.code y bytes maxL ret :: xALL) rm (.ref b :: As) (some v) st st') (hP : HW D V la Ef st H) (hS : va_S (xA V la) s.heap H locs) (hstk : st0 = As.reverse ++ .ref b :: rest) (K : xKv y bytes maxL ret C n) (hlink : Cond.methodLink own index y ∈ xALL) (hrc : rm.cells = 0 ∧ rm.slots = 0) (hR : rm.frames + 1 ≤ R.frames ∧ 8 + (maxL + 11) + rm.locals ≤ R.locals) (hrecv : ∃ cell : Cell, H[b]? = some cell ∧ cell.vm.isStatics = false ∧ s.vm.findClass C = some cell.cls) (hn : As.length = n) (hsz : ls.size = nL) (hW : (rest.map fun v => v.category).sum ≤ 8) (hdg : decode cc pc = .ok (.invokevirtual index, 3))
    (kk : ∀ (H1 : Heap) (locs1 : List Loc), HW D V la Ef st' H1 → va_S (xA V la) s.heap H1 locs1 → W p l e R s m args below meth c H1 locs1 0 0 Q (F0 m (pc + 3) ls (v :: rest))) : W p l e R s m args below meth c H locs 0 0 Q (F0 m pc ls st0) := by
  rw [hstk]
  exact w_callV X hM hP hS K hlink hrc.1 hrc.2 hR hrecv hn hsz hW ⟨Nat.zero_le _, Nat.zero_le _⟩ hdg kk
theorem w_V0 {y : MethodName} {bytes : ByteArray} {maxL n index b : Nat} {ret : Option FieldType} {C : String} {rm : Room} {As : List Value} {st0 : List Value} (X : xCx D V la cyI cyF cyM t0 p m c cc nL s args own) (hM : MetW D V la Ef cyI cyF cyM t0 l y (Cond.code y bytes maxL ret :: xALL) rm (.ref b :: As) none st st') (hP : HW D V la Ef st H) (hS : va_S (xA V la) s.heap H locs) (hstk : st0 = As.reverse ++ .ref b :: rest) (K : xKv y bytes maxL ret C n) (hlink : Cond.methodLink own index y ∈ xALL) (hrc : rm.cells = 0 ∧ rm.slots = 0) (hR : rm.frames + 1 ≤ R.frames ∧ 8 + (maxL + 11) + rm.locals ≤ R.locals) (hrecv : ∃ cell : Cell, H[b]? = some cell ∧ cell.vm.isStatics = false ∧ s.vm.findClass C = some cell.cls) (hn : As.length = n) (hsz : ls.size = nL) (hW : (rest.map fun v => v.category).sum ≤ 8) (hdg : decode cc pc = .ok (.invokevirtual index, 3))
    (kk : ∀ (H1 : Heap) (locs1 : List Loc), HW D V la Ef st' H1 → va_S (xA V la) s.heap H1 locs1 → W p l e R s m args below meth c H1 locs1 0 0 Q (F0 m (pc + 3) ls rest)) : W p l e R s m args below meth c H locs 0 0 Q (F0 m pc ls st0) := by
  rw [hstk]
  exact w_callV X hM hP hS K hlink hrc.1 hrc.2 hR hrecv hn hsz hW ⟨Nat.zero_le _, Nat.zero_le _⟩ hdg kk
theorem w_S1 {y : MethodName} {bytes : ByteArray} {maxL n index : Nat} {ret : Option FieldType} {C : String} {rm : Room} {As : List Value} {v : Value} {st0 : List Value} (X : xCx D V la cyI cyF cyM t0 p m c cc nL s args own) (hM : MetW D V la Ef cyI cyF cyM t0 l y (Cond.code y bytes maxL ret :: xALL) rm As (some v) st st') (hP : HW D V la Ef st H) (hS : va_S (xA V la) s.heap H locs) (hstk : st0 = As.reverse ++ rest) (K : xKs y bytes maxL ret C n) (hlink : Cond.methodLink own index y ∈ xALL) (hrc : rm.cells = 0 ∧ rm.slots = 0) (hR : rm.frames + 1 ≤ R.frames ∧ 8 + (maxL + 11) + rm.locals ≤ R.locals) (hn : As.length = n) (hsz : ls.size = nL) (hW : (rest.map fun v => v.category).sum ≤ 8) (hdg : decode cc pc = .ok (.invokestatic index, 3))
    (kk : ∀ (H1 : Heap) (locs1 : List Loc), HW D V la Ef st' H1 → va_S (xA V la) s.heap H1 locs1 → W p l e R s m args below meth c H1 locs1 0 0 Q (F0 m (pc + 3) ls (v :: rest))) : W p l e R s m args below meth c H locs 0 0 Q (F0 m pc ls st0) := by
  rw [hstk]
  exact w_callS X hM hP hS K hlink hrc.1 hrc.2 hR hn hsz hW ⟨Nat.zero_le _, Nat.zero_le _⟩ hdg kk
theorem w_N1 {y : MethodName} {bytes : ByteArray} {maxL n index : Nat} {ret : Option FieldType} {C host : String} {rm : Room} {As : List Value} {v : Value} {st0 : List Value} (X : xCx D V la cyI cyF cyM t0 p m c cc nL s args own) (hM : MetW D V la Ef cyI cyF cyM t0 l y (Cond.code y bytes maxL ret :: xALL) rm As (some v) st st') (hP : HW D V la Ef st H) (hS : va_S (xA V la) s.heap H locs) (hstk : st0 = As.reverse ++ rest) (K : xKs y bytes maxL ret C n) (hlink : va_Nw (.methodLinkNest own index y host) s) (hrc : rm.cells = 0 ∧ rm.slots = 0) (hR : rm.frames + 1 ≤ R.frames ∧ 8 + (maxL + 11) + rm.locals ≤ R.locals) (hn : As.length = n) (hsz : ls.size = nL) (hW : (rest.map fun v => v.category).sum ≤ 8) (hdg : decode cc pc = .ok (.invokestatic index, 3))
    (kk : ∀ (H1 : Heap) (locs1 : List Loc), HW D V la Ef st' H1 → va_S (xA V la) s.heap H1 locs1 → W p l e R s m args below meth c H1 locs1 0 0 Q (F0 m (pc + 3) ls (v :: rest))) : W p l e R s m args below meth c H locs 0 0 Q (F0 m pc ls st0) := by
  rw [hstk]
  exact w_callN X hM hP hS K hlink hrc.1 hrc.2 hR hn hsz hW ⟨Nat.zero_le _, Nat.zero_le _⟩ hdg kk
theorem w_ialdK (X : xCx D V la cyI cyF cyM t0 p m c cc nL s args own) (hP : HW D V la Ef st H) {c0 i0 : Nat} (hV : V c0 i0) {n : Nat} (he : ∀ g : Nat → Int32, Ef g st.2 c0 i0 = .inl (cyI, n, .inl g)) {i : Int32} (j : Nat) (hj : i.toNatClampNeg = j) (hin : ¬ (i < 0 ∨ n ≤ i.toNatClampNeg)) (hdg : decode cc pc = .ok (.iaload, 1))
    (kk : W p l e R s m args below meth c H locs cells slots Q (F0 m (pc + 1) ls (.int (st.1 c0 i0 j) :: rest))) : W p l e R s m args below meth c H locs cells slots Q (F0 m pc ls (.int i :: .ref (la c0 i0) :: rest)) := by
  subst hj
  exact w_iald X hP hV (he _) hin hdg kk
theorem w_iastK (X : xCx D V la cyI cyF cyM t0 p m c cc nL s args own) (hP : HW D V la Ef st H) (hS : va_S (xA V la) s.heap H locs) {c0 i0 : Nat} (hV : V c0 i0) {n : Nat} (he : ∀ g : Nat → Int32, Ef g st.2 c0 i0 = .inl (cyI, n, .inl g)) {i x : Int32} (j : Nat) (hj : i.toNatClampNeg = j) (hin : ¬ (i < 0 ∨ n ≤ i.toNatClampNeg)) (hdg : decode cc pc = .ok (.iastore, 1))
    (kk : ∀ (H1 : Heap) (locs1 : List Loc), HW D V la Ef (pI st c0 i0 j x) H1 → va_S (xA V la) s.heap H1 locs1 → W p l e R s m args below meth c H1 locs1 cells slots Q (F0 m (pc + 1) ls rest)) : W p l e R s m args below meth c H locs cells slots Q (F0 m pc ls (.int x :: .int i :: .ref (la c0 i0) :: rest)) := by
  subst hj
  exact w_iast X hP hS hV he hin hdg kk
theorem w_max {x y : Int32} {index : Nat} (X : xCx D V la cyI cyF cyM t0 p m c cc nL s args own) (hlink : Cond.methodLink own index yJ9_max_7cf53 ∈ xALL) (hsz : ls.size = nL) (hf : 1 ≤ R.frames) (hl : 21 ≤ R.locals) (hW : (rest.map fun v => v.category).sum ≤ 8) (hdg : decode cc pc = .ok (.invokestatic index, 3))
    (kk : W p l e R s m args below meth c H locs 0 0 Q (F0 m (pc + 3) ls (.int (if x < y then y else x) :: rest))) : W p l e R s m args below meth c H locs 0 0 Q (F0 m pc ls (.int y :: .int x :: rest)) :=
  va_mmax X.1.1 X.1.2.1 (X.1.2.2.1.trans hsz.symm) X.1.2.2.2.1 (X.1.2.2.2.2 _ hlink) (X.1.2.2.2.2 _ ss_J9_max_7cf53) (X.1.2.2.2.2 _ in_J9) (X.1.2.2.2.2 _ cd_J9_max_7cf53) hf (by omega) (Nat.zero_le _) (Nat.zero_le _) hdg kk
end XK
