/-! My own small layer: a world is a family of cells named by two numbers (kind c, index i); `la c i` is its address, `E c i` what it holds. -/
abbrev xEn : Type := Nat → Nat → va_E
def xP (D : va_G) (V : Nat → Nat → Prop) (la : Nat → Nat → Nat) (E : xEn) (H : Heap) : Prop := ∀ c i, V c i → va_at D vwCl (la c i, E c i) H
def xD (V : Nat → Nat → Prop) (la : Nat → Nat → Nat) : Prop := ∀ c i c' i', V c i → V c' i' → la c i = la c' i' → c = c' ∧ i = i'
def xA (V : Nat → Nat → Prop) (la : Nat → Nat → Nat) : Nat → Prop := fun q => ∃ c i, V c i ∧ la c i = q
def xU (E : xEn) (c i : Nat) (e : va_E) : xEn := fun c' i' => if c' = c ∧ i' = i then e else E c' i'
theorem xA_of {V : Nat → Nat → Prop} {la : Nat → Nat → Nat} {c i : Nat} (h : V c i) : xA V la (la c i) := ⟨c, i, h, rfl⟩
theorem xP.set {D : va_G} {V : Nat → Nat → Prop} {la : Nat → Nat → Nat} {E : xEn} {H H1 : Heap} {c i : Nat} {e : va_E} (hP : xP D V la E H) (hD : xD V la) (hV : V c i) (h1 : va_at D vwCl (la c i, e) H1) (oq : ∀ q : Nat, q ≠ la c i → H1[q]? = H[q]?) : xP D V la (xU E c i e) H1 := by
  intro c' i' hV'
  unfold xU
  by_cases h : c' = c ∧ i' = i
  · rw [if_pos h, h.1, h.2]; exact h1
  · rw [if_neg h]
    exact (hP c' i' hV').kept (oq _ (fun z => h (hD c' i' c i hV' hV z)))
theorem xP.kept {D : va_G} {V : Nat → Nat → Prop} {la : Nat → Nat → Nat} {E : xEn} {H H1 : Heap} (hP : xP D V la E H) (hq : ∀ c i, V c i → H1[la c i]? = H[la c i]?) : xP D V la E H1 := fun c i hV => (hP c i hV).kept (hq c i hV)
theorem xP.to {D : va_G} {V : Nat → Nat → Prop} {la : Nat → Nat → Nat} {E E' : xEn} {H : Heap} (hP : xP D V la E H) (h : ∀ c i, V c i → E c i = E' c i) : xP D V la E' H := fun c i hV => by rw [← h c i hV]; exact hP c i hV
section XR
variable {p : Program} {l : Launch} {e : Env} {R : Room} {s : State} {m : MethodId} {args : Array Value} {below : List Frame} {meth : Method} {c : Code} {H : Heap} {locs : List Loc} {cells slots : Nat} {Q : State → Prop}
variable {cc : ByteArray} {pc : Nat} {ls : Array Slot} {rest : List Value} {D : va_G} {V : Nat → Nat → Prop} {la : Nat → Nat → Nat} {E : xEn} {A : Nat → Prop} {tys : List (ClassId × FieldType)} {H0 : Heap}
theorem x_get (hexec : p.tables.exec = Jvm.exec) (hb : c.code = cc) {own C : String} {T : u_T} {N ci index : Nat} {Ts : List Cond} (hts : ∀ w ∈ Ts, w.before args s = true) (hin : ∀ w ∈ u_ws C T N, w ∈ Ts) (hown : s.vm.findClass own = some m.cls) (hK : va_K D vwCl tys s) (hP : xP D V la E H) {c0 i0 : Nat} (hV : V c0 i0) {fs : List Value} (he : E c0 i0 = .inr (ci, fs)) (hc : vwCl[ci]? = some (C, T, N)) (k : Nat) (hk : k < N) (hlink : (Cond.fieldLink own index (T k).1 (T k).2.1 (T k).2.2.1).before args s = true) {v : Value} (hv : fs[k]? = some v) (hdg : decode cc pc = .ok (.getfield index, 3))
    (kk : W p l e R s m args below meth c H locs cells slots Q (F0 m (pc + 3) ls (v :: rest))) : W p l e R s m args below meth c H locs cells slots Q (F0 m pc ls (.ref (la c0 i0) :: rest)) := by
  have h1 : va_P D vwCl [(la c0 i0, E c0 i0)] H := fun j q hq => by
    match j, hq with
    | 0, hq => cases hq; exact hP c0 i0 hV
  exact va_get hexec hb hts hin hown hK h1 0 (by rw [he]; rfl) hc k hk hlink (fun _ h9 => h9) hv hdg kk
theorem x_put (hexec : p.tables.exec = Jvm.exec) (hb : c.code = cc) {own C : String} {T : u_T} {N ci index : Nat} {Ts : List Cond} (hts : ∀ w ∈ Ts, w.before args s = true) (hin : ∀ w ∈ u_ws C T N, w ∈ Ts) (ty0 : Nat → FieldType) (hty : ∀ k, k < N → parseFieldDescriptor (T k).2.2.1 = some (ty0 k)) (hnm : ∀ a, a < N → ∀ b, b < N → a ≠ b → (T a).2.1 ≠ (T b).2.1) (hown : s.vm.findClass own = some m.cls) (hK : va_K D vwCl tys s) (hP : xP D V la E H) (hD : xD V la) (hS : va_S A H0 H locs) {c0 i0 : Nat} (hV : V c0 i0) (hAa : A (la c0 i0)) {fs : List Value} (he : E c0 i0 = .inr (ci, fs)) (hc : vwCl[ci]? = some (C, T, N)) (k : Nat) (hk : k < N) (hlink : (Cond.fieldLink own index (T k).1 (T k).2.1 (T k).2.2.1).before args s = true) (hfin : (T k).2.2.2 = false) {ty : FieldType} {v : Value} (hd : parseFieldDescriptor (T k).2.2.1 = some ty) (hn : narrow ty v = v) (hfit : fits ty v = true) (hl : k < fs.length)
    (hdg : decode cc pc = .ok (.putfield index, 3)) (kk : ∀ (H1 : Heap) (locs1 : List Loc), xP D V la (xU E c0 i0 (.inr (ci, fs.set k v))) H1 → va_S A H0 H1 locs1 → W p l e R s m args below meth c H1 locs1 cells slots Q (F0 m (pc + 3) ls rest)) : W p l e R s m args below meth c H locs cells slots Q (F0 m pc ls (v :: .ref (la c0 i0) :: rest)) := by
  have hap := va_apart (own := own) hts hin ty0 hty hnm hK hc
  have h0 := hP c0 i0 hV
  rw [he] at h0
  obtain ⟨r, h1, cell, q1, q2, q3, q4⟩ := h0
  have hr : r = (C, T, N) := Option.some.inj (h1.symm.trans hc)
  subst hr
  obtain ⟨hSl, hfc, kC, hkC, hkind⟩ := hK.1 ci _ hc
  obtain ⟨cf, kf, fi, f, hi, hsl⟩ := hSl k hk
  have hlay := hts _ (hin _ (u_in_lay hk))
  unfold u_lay at hlay
  rw [if_neg (by rw [hfin]; decide)] at hlay
  have hst := (u_facts hfc hkC (u_lays hts hin hk) hi).1
  have h6 := u_store hfc hkC hkind hlay hi hd hn hfit
  refine W.putK hexec hb (f := f) ⟨hown, hlink, ⟨_, _, _, hi⟩, hst⟩ (by rw [q2]; exact h6) q1 q3 (by rw [hsl]; exact k2_hasslot (q4 k hk)) rfl rfl hdg fun H' e1 e2 e3 => ?_
  rw [hsl] at e1 ⊢
  exact kk H' _ (hP.set hD hV ⟨_, hc, t_OB.to (V := updV (vp_V fs) k v) ⟨_, e1, q2, q3, t_set q4 hap hk v⟩ (fun j _ => vp_updV_set hl v j)⟩ e3) (hS.put e2 e3 hAa)
theorem x_iald (hexec : p.tables.exec = Jvm.exec) (hb : c.code = cc) (hK : va_K D vwCl tys s) (hP : xP D V la E H) (t0 : Nat) {c0 i0 : Nat} (hV : V c0 i0) {cA : ClassId} {n : Nat} {f : Nat → Int32} (he : E c0 i0 = .inl (cA, n, .inl f)) (ht : tys[t0]? = some (cA, .int)) {i : Int32} (hin : vp_in i n) (hdg : decode cc pc = .ok (.iaload, 1))
    (kk : W p l e R s m args below meth c H locs cells slots Q (F0 m (pc + 1) ls (.int (f i.toNatClampNeg) :: rest))) : W p l e R s m args below meth c H locs cells slots Q (F0 m pc ls (.int i :: .ref (la c0 i0) :: rest)) := by
  have h1 : va_P D vwCl [(la c0 i0, E c0 i0)] H := fun j q hq => by
    match j, hq with
    | 0, hq => cases hq; exact hP c0 i0 hV
  exact va_iald hexec hb hK h1 0 t0 (by rw [he]; rfl) ht hin hdg kk
theorem x_alen (hexec : p.tables.exec = Jvm.exec) (hb : c.code = cc) (hK : va_K D vwCl tys s) (hP : xP D V la E H) (t0 : Nat) {c0 i0 : Nat} (hV : V c0 i0) {cA : ClassId} {x : vp_A} (he : E c0 i0 = .inl (cA, x)) {ty : FieldType} (ht : tys[t0]? = some (cA, ty)) {v : Int32} (hv : Int32.ofNat x.1 = v) (hdg : decode cc pc = .ok (.arraylength, 1))
    (kk : W p l e R s m args below meth c H locs cells slots Q (F0 m (pc + 1) ls (.int v :: rest))) : W p l e R s m args below meth c H locs cells slots Q (F0 m pc ls (.ref (la c0 i0) :: rest)) := by
  have h1 : va_P D vwCl [(la c0 i0, E c0 i0)] H := fun j q hq => by
    match j, hq with
    | 0, hq => cases hq; exact hP c0 i0 hV
  exact va_alen hexec hb hK h1 0 t0 (by rw [he]; rfl) ht hv hdg kk
theorem x_aald (hexec : p.tables.exec = Jvm.exec) (hb : c.code = cc) (hK : va_K D vwCl tys s) (hP : xP D V la E H) (t0 : Nat) {c0 i0 : Nat} (hV : V c0 i0) {cA : ClassId} {C : String} {n : Nat} {f : Nat → Option Nat} (he : E c0 i0 = .inl (cA, n, .inr (.inr (.inr (.inr f))))) (ht : tys[t0]? = some (cA, .object C)) {i : Int32} (hin : vp_in i n) (hdg : decode cc pc = .ok (.aaload, 1))
    (kk : W p l e R s m args below meth c H locs cells slots Q (F0 m (pc + 1) ls (va_rf (f i.toNatClampNeg) :: rest))) : W p l e R s m args below meth c H locs cells slots Q (F0 m pc ls (.int i :: .ref (la c0 i0) :: rest)) := by
  have h1 : va_P D vwCl [(la c0 i0, E c0 i0)] H := fun j q hq => by
    match j, hq with
    | 0, hq => cases hq; exact hP c0 i0 hV
  exact va_aldq hexec hb hK h1 0 t0 (by rw [he]; rfl) ht hin hdg kk
theorem x_iast (hexec : p.tables.exec = Jvm.exec) (hb : c.code = cc) (hK : va_K D vwCl tys s) (hP : xP D V la E H) (hD : xD V la) (hS : va_S A H0 H locs) (t0 : Nat) {c0 i0 : Nat} (hV : V c0 i0) (hAa : A (la c0 i0)) {cA : ClassId} {n : Nat} {f : Nat → Int32} (he : E c0 i0 = .inl (cA, n, .inl f)) (ht : tys[t0]? = some (cA, .int)) {i x : Int32} (hin : vp_in i n) (hdg : decode cc pc = .ok (.iastore, 1))
    (kk : ∀ (H1 : Heap) (locs1 : List Loc), xP D V la (xU E c0 i0 (.inl (cA, n, .inl (upd f i.toNatClampNeg x)))) H1 → va_S A H0 H1 locs1 → W p l e R s m args below meth c H1 locs1 cells slots Q (F0 m (pc + 1) ls rest)) : W p l e R s m args below meth c H locs cells slots Q (F0 m pc ls (.int x :: .int i :: .ref (la c0 i0) :: rest)) := by
  have h0 := hP c0 i0 hV
  rw [he] at h0
  refine W.iast hexec hb h0 ((hK.2 t0 _ ht).1 n (fun j => .int (f j))) (fun q => by cases q) (by show ¬ (i < 0 ∨ (arrV _ _ _).slots.size ≤ _); rw [arrV_size]; exact hin) rfl rfl hdg fun H1 e z oq => ?_
  refine kk H1 _ (hP.set hD hV ?_ oq) (hS.put z oq hAa)
  show H1[la c0 i0]? = some (vp_cell _ _)
  rw [e]
  rw [vp_cell_i, vp_cell_i, arrV_store]
  congr 2
  funext q
  by_cases hq : q = i.toNatClampNeg
  · subst hq
    simp [updV, upd]
  · simp [updV, upd, hq]
theorem x_aast (hexec : p.tables.exec = Jvm.exec) (hb : c.code = cc) (hK : va_K D vwCl tys s) (hP : xP D V la E H) (hD : xD V la) (hS : va_S A H0 H locs) (t0 ci : Nat) {c0 i0 c1 i1 : Nat} (hV : V c0 i0) (hAa : A (la c0 i0)) (hV1 : V c1 i1) {cA : ClassId} {r : vw_C} {n : Nat} {vs : List Value} {f : Nat → Option Nat} (he : E c0 i0 = .inl (cA, n, .inr (.inr (.inr (.inr f))))) (ht : tys[t0]? = some (cA, .object r.1)) (hv : E c1 i1 = .inr (ci, vs)) (hc : vwCl[ci]? = some r) {i : Int32} (hin : vp_in i n) (hdg : decode cc pc = .ok (.aastore, 1))
    (kk : ∀ (H1 : Heap) (locs1 : List Loc), xP D V la (xU E c0 i0 (.inl (cA, n, .inr (.inr (.inr (.inr (va_up f i.toNatClampNeg (some (la c1 i1)))))))))  H1 → va_S A H0 H1 locs1 → W p l e R s m args below meth c H1 locs1 cells slots Q (F0 m (pc + 1) ls rest)) : W p l e R s m args below meth c H locs cells slots Q (F0 m pc ls (.ref (la c1 i1) :: .int i :: .ref (la c0 i0) :: rest)) := by
  have hlt : i.toNatClampNeg < n := Nat.not_le.mp fun q => hin (Or.inr q)
  have hz : ¬ i < 0 := fun q => hin (Or.inl q)
  have h0 := hP c0 i0 hV
  rw [he] at h0
  have h9 := hP c1 i1 hV1
  rw [hv] at h9
  obtain ⟨r', hr', cellV, g1, g2, g3, -⟩ := h9
  have hcls := (hK.1 ci r hc).2
  obtain ⟨kA, comp, k1, k2, k3, -⟩ := (hK.2 t0 _ ht).2
  have hcomp : comp = D.1 ci := Option.some.inj (k3.symm.trans hcls.1)
  subst hcomp
  obtain ⟨kC, hkC, -⟩ := hcls.2
  refine W.aast hexec hb h0 (fun q h => by cases h) (fun h => by cases h) k1 k2 rfl hkC ⟨hz, by show _ < (arrV _ _ _).slots.size; rw [arrV_size]; exact hlt⟩ g1 (fun q h => by rw [g3] at h; cases h) (by rw [g2]; exact hkC) (by rw [g2]; exact va_assign hcls) rfl rfl hdg fun H1 e z oq => ?_
  refine kk H1 _ (hP.set hD hV ?_ oq) (hS.put z oq hAa)
  show H1[la c0 i0]? = some (vp_cell _ _)
  rw [e]
  rw [vp_cell_q, vp_cell_q, arrV_store]
  congr 2
  funext q
  by_cases hq : q = i.toNatClampNeg
  · subst hq
    simp [updV, va_up, va_rf]
  · simp [updV, va_up, hq]
end XR
theorem x_recv {s : State} {H : Heap} {D : va_G} {V : Nat → Nat → Prop} {la : Nat → Nat → Nat} {E : xEn} {c0 i0 ci : Nat} {q : vw_C} {fs : List Value} {tys : List (ClassId × FieldType)} (hK : va_K D vwCl tys s) (hP : xP D V la E H) (hV : V c0 i0) (hc : vwCl[ci]? = some q) (he : E c0 i0 = .inr (ci, fs)) : ∃ cell : Cell, H[la c0 i0]? = some cell ∧ cell.vm.isStatics = false ∧ s.vm.findClass q.1 = some cell.cls := by
  have h1 : va_P D vwCl [(la c0 i0, E c0 i0)] H := fun j q hq => by
    match j, hq with
    | 0, hq => cases hq; exact hP c0 i0 hV
  exact va_recv hK h1 hc (q0 := 0) (by rw [he]; rfl)
