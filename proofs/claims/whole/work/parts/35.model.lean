/-! MadeCallsModel(most) -/
abbrev rm_X9_init : Room := { frames := 1, cells := 18, slots := 1657, locals := 12 }
def m0St (mo : Nat) : xSt := (fun c _ k => if c = 9 then (if k = 5 then nI mo else if k = 10 ∨ k = 41 ∨ k = 42 then -1 else 0) else 0, fun _ _ => 0)
def iMd (cyI : ClassId) (mo : Nat) (V : Nat → Nat → Prop) (la : Nat → Nat → Nat) (E : xEn) (V' : Nat → Nat → Prop) (la' : Nat → Nat → Nat) (E' : xEn) : Prop :=
  (∀ c k, V' c k ↔ V c k ∨ (c = 30 ∧ 0 < lenM k)) ∧ (∀ c k, V c k → la' c k = la c k) ∧ (∀ c k, V c k → ¬ (c = 9 ∧ k = 0) → E' c k = E c k) ∧
  E' 9 0 = EMf cyI la' ((m0St mo).1 9 0) (m0St mo).2 9 0 ∧ ∀ k, 0 < lenM k → E' 30 k = .inl (cyI, lenM k, .inl (fun _ => 0))
theorem lenM_cases {k : Nat} (h : 0 < lenM k) : k ∈ [38, 37, 36, 35, 34, 33, 32, 31, 26, 25, 22, 9, 8, 7, 4, 3, 2, 1] := by
  unfold lenM at h
  split at h <;> first | (exact absurd h (Nat.lt_irrefl 0)) | simp
/-- between: which arrays stand (number and address), what the object's fields are -/
def iMs (cyI : ClassId) (V : Nat → Nat → Prop) (la : Nat → Nat → Nat) (E : xEn) (adr : List (Nat × Nat)) (fs : List Value) (V' : Nat → Nat → Prop) (la' : Nat → Nat → Nat) (E' : xEn) : Prop :=
  (∀ c k, V' c k ↔ V c k ∨ (c = 30 ∧ k ∈ adr.map Prod.fst)) ∧ (∀ c k, V c k → la' c k = la c k) ∧ (∀ c k, V c k → ¬ (c = 9 ∧ k = 0) → E' c k = E c k) ∧
  E' 9 0 = .inr (9, fs) ∧ ∀ q ∈ adr, la' 30 q.1 = q.2 ∧ E' 30 q.1 = .inl (cyI, lenM q.1, .inl (fun _ => 0))
section MD
variable {p : Program} {l : Launch} {e : Env} {R : Room} {s : State} {m : MethodId} {args : Array Value} {below : List Frame} {meth : Method} {c : Code} {H : Heap} {locs : List Loc} {cells slots : Nat} {Q : State → Prop}
variable {nL pc : Nat} {ls : Array Slot} {rest : List Value} {D : va_G} {V V0 : Nat → Nat → Prop} {la la0 : Nat → Nat → Nat} {E E0 : xEn} {cyI cyF cyM : ClassId} {sz0 a0 : Nat} {H0 : Heap} {adr : List (Nat × Nat)} {fs : List Value}
theorem md_int (X : iCx D cyI cyF cyM p m meth c cX9_init nL s args RX9) (hN : xNew D sz0 V la E H) (hS : va_S (fun q => sz0 ≤ q) H0 H locs) (hI : iMs cyI V0 la0 E0 adr fs V la E) (hV9 : V0 9 0) (ha0 : la0 9 0 = a0) (h30 : ∀ i, ¬ V0 30 i) (k : Nat) (fs' : List Value) {v : Int32} (hfs : fs.set k (.int v) = fs') (hk : k < 47) (hl : k < fs.length) {index : Nat} (hlink : Cond.fieldLink RX9 index (TX9 k).1 (TX9 k).2.1 (TX9 k).2.2.1 ∈ xALL) (hdecl : (TX9 k).1 = RX9) (hd : parseFieldDescriptor (TX9 k).2.2.1 = some .int) (hdg : decode cX9_init pc = .ok (.putfield index, 3))
    (kk : ∀ (E1 : xEn) (H1 : Heap) (locs1 : List Loc), xNew D sz0 V la E1 H1 → va_S (fun q => sz0 ≤ q) H0 H1 locs1 → iMs cyI V0 la0 E0 adr fs' V la E1 → W p l e R s m args below meth c H1 locs1 cells slots Q (F0 m (pc + 3) ls rest)) : W p l e R s m args below meth c H locs cells slots Q (F0 m pc ls (.int v :: .ref a0 :: rest)) := by
  obtain ⟨i1, i2, i3, i4, i5⟩ := hI
  refine i_put X hN hS (c0 := 9) (i0 := 0) ((i1 9 0).mpr (Or.inl hV9)) ((i2 9 0 hV9).trans ha0) i4 rfl la_X9 tyX9 tyX9_ok nmX9 k hk hlink hdecl (ty := .int) hd rfl rfl hl hdg (fun H1 locs1 hN hS => kk _ H1 locs1 hN hS ⟨i1, i2, fun c k h hne => ?_, ?_, fun q hq => ⟨(i5 q hq).1, ?_⟩⟩)
  · unfold xU; rw [if_neg hne]; exact i3 c k h hne
  · unfold xU; rw [if_pos ⟨rfl, rfl⟩, hfs]
  · unfold xU; rw [if_neg (fun z => absurd z.1 (by decide))]; exact (i5 q hq).2
theorem md_step (X : iCx D cyI cyF cyM p m meth c cX9_init nL s args RX9) (hN : xNew D sz0 V la E H) (hS : va_S (fun q => sz0 ≤ q) H0 H locs) (hI : iMs cyI V0 la0 E0 adr fs V la E) (hV9 : V0 9 0) (ha0 : la0 9 0 = a0) (h30 : ∀ i, ¬ V0 30 i) (k : Nat) (hnk : k ∉ adr.map Prod.fst) (fs' : Nat → List Value) (hfs : ∀ a, fs.set k (.ref a) = fs' a) (hk : k < 47) (hl : k < fs.length) {n : Int32} (hn : ¬ n < 0) (hN' : n.toNatClampNeg = lenM k) (hbytes : lenM k * 4 ≤ 536870912) (hcells : cells + 1 ≤ R.cells) (hslots : slots + lenM k ≤ R.slots) {index : Nat} (hlink : Cond.fieldLink RX9 index (TX9 k).1 (TX9 k).2.1 (TX9 k).2.2.1 ∈ xALL) (hdecl : (TX9 k).1 = RX9) (hd : parseFieldDescriptor (TX9 k).2.2.1 = some (.array .int)) (hdg : decode cX9_init pc = .ok (.newarray .int, 2)) (hdg2 : decode cX9_init (pc + 2) = .ok (.putfield index, 3))
    (kk : ∀ (a : Nat) (V1 : Nat → Nat → Prop) (la1 : Nat → Nat → Nat) (E1 : xEn) (H1 : Heap) (locs1 : List Loc), xNew D sz0 V1 la1 E1 H1 → va_S (fun q => sz0 ≤ q) H0 H1 locs1 → iMs cyI V0 la0 E0 ((k, a) :: adr) (fs' a) V1 la1 E1 → W p l e R s m args below meth c H1 locs1 (cells + 1) (slots + lenM k) Q (F0 m (pc + 2 + 3) ls rest)) : W p l e R s m args below meth c H locs cells slots Q (F0 m pc ls (.int n :: .ref a0 :: rest)) := by
  obtain ⟨i1, i2, i3, i4, i5⟩ := hI
  have hnew : ¬ V 30 k := fun z => by
    rcases (i1 30 k).mp z with z | z
    · exact h30 k z
    · exact hnk z.2
  have hne : ∀ c i, V c i → ¬ (c = 30 ∧ i = k) := fun c i h z => hnew (by rw [← z.1, ← z.2]; exact h)
  have h9 : V 9 0 := (i1 9 0).mpr (Or.inl hV9)
  refine i_newi X hN hS 30 k hnew (lenM k) hn hN' hbytes hcells hslots hdg (fun a H e1 hN hS => ?_)
  refine i_put X hN hS (c0 := 9) (i0 := 0) (Or.inl h9) (by unfold xLa; rw [if_neg (hne 9 0 h9)]; exact (i2 9 0 hV9).trans ha0) (by unfold xU; rw [if_neg (hne 9 0 h9)]; exact i4) rfl la_X9 tyX9 tyX9_ok nmX9 k hk hlink hdecl (ty := .array .int) hd rfl rfl hl hdg2 (fun H1 locs1 hN hS => kk a _ _ _ H1 locs1 hN hS ⟨fun c i => ?_, fun c i h => ?_, fun c i h hn9 => ?_, ?_, fun q hq => ?_⟩)
  · unfold xVa
    rw [i1]
    simp only [List.map_cons, List.mem_cons]
    constructor
    · rintro ((h | h) | h)
      · exact Or.inl h
      · exact Or.inr ⟨h.1, Or.inr h.2⟩
      · exact Or.inr ⟨h.1, Or.inl h.2⟩
    · rintro (h | ⟨h1, h2 | h2⟩)
      · exact Or.inl (Or.inl h)
      · exact Or.inr ⟨h1, h2⟩
      · exact Or.inl (Or.inr ⟨h1, h2⟩)
  · unfold xLa
    rw [if_neg (hne c i ((i1 c i).mpr (Or.inl h)))]
    exact i2 c i h
  · unfold xU
    rw [if_neg hn9, if_neg (hne c i ((i1 c i).mpr (Or.inl h)))]
    exact i3 c i h hn9
  · unfold xU
    rw [if_pos ⟨rfl, rfl⟩, hfs]
  · rcases List.mem_cons.mp hq with h | h
    · subst h
      unfold xLa xU
      exact ⟨by rw [if_pos ⟨rfl, rfl⟩], by rw [if_neg (fun z => absurd z.1 (by decide)), if_pos ⟨rfl, rfl⟩]⟩
    · have hqk : ¬ ((30 : Nat) = 30 ∧ q.1 = k) := fun z => hnk (by rw [← z.2]; exact List.mem_map_of_mem h)
      unfold xLa xU
      refine ⟨?_, ?_⟩
      · rw [if_neg hqk]; exact (i5 q h).1
      · rw [if_neg (fun z => absurd z.1 (by decide)), if_neg hqk]; exact (i5 q h).2
end MD
set_option maxHeartbeats 4000000 in
set_option maxRecDepth 100000 in
theorem TX9_init (l : Launch) {D : va_G} {cyI cyF cyM : ClassId} {sz0 mo : Nat} {mv : Int32} {V : Nat → Nat → Prop} {la : Nat → Nat → Nat} {E : xEn} (a0 : Nat) (hmv : nI mo = if mv < 0 then 0 else if mv ≤ 20 then mv else 20) (hV9 : V 9 0) (ha0 : la 9 0 = a0) (hE : E 9 0 = .inr (9, [.int 0, .null, .null, .null, .null, .int 0, .int 0, .null, .null, .null, .int 0, .int 0, .int 0, .int 0, .int 0, .int 0, .int 0, .int 0, .int 0, .int 0, .int 0, .int 0, .null, .int 0, .int 0, .null, .null, .int 0, .int 0, .int 0, .int 0, .null, .null, .null, .null, .null, .null, .null, .null, .int 0, .int 0, .int 0, .int 0, .int 0, .int 0, .int 0, .int 0])) (h30 : ∀ i, ¬ V 30 i) :
    MetI D cyI cyF cyM sz0 l yX9_init (Cond.code yX9_init cX9_init 2 none :: xALL) rm_X9_init [.ref a0, .int mv] V la E (iMd cyI mo V la E) := by
  refine MetI.intro (own := RX9) (by decide) rfl (Nat.le_of_ble_eq_true rfl) rfl ?_
  intro p e s m below meth c X hN ls hl
  have hx := X.1.1
  have hb := X.1.2.1
  have hS : va_S (fun q => sz0 ≤ q) s.heap s.heap [] := va_S.rf
  have hI : iMs cyI V la E [] [.int 0, .null, .null, .null, .null, .int 0, .int 0, .null, .null, .null, .int 0, .int 0, .int 0, .int 0, .int 0, .int 0, .int 0, .int 0, .int 0, .int 0, .int 0, .int 0, .null, .int 0, .int 0, .null, .null, .int 0, .int 0, .int 0, .int 0, .null, .null, .null, .null, .null, .null, .null, .null, .int 0, .int 0, .int 0, .int 0, .int 0, .int 0, .int 0, .int 0] V la E := ⟨fun c k => ⟨Or.inl, fun z => z.elim id (fun z => by simp at z)⟩, fun _ _ _ => rfl, fun _ _ _ _ => rfl, hE, fun q hq => by simp at hq⟩
  replace hl : lv_has ls 2 [(0, .ref a0), (1, .int mv)] := hl
  refine lv_aload_n hx hb dX9_init_0 rfl (lv_at hl 0 rfl) ?_
  refine i_obj X mo_X9_1 hl.1 (Nat.le_of_ble_eq_true rfl) (by decide) dX9_init_1 ?_
  refine lv_aload_n hx hb dX9_init_4 rfl (lv_at hl 0 rfl) ?_
  refine lv_sipush (v := 1024) hx hb dX9_init_5 (by decide) ?_
  refine md_step X hN hS hI hV9 ha0 h30 1 (by simp) (fun a1 => [.int 0, .ref a1, .null, .null, .null, .int 0, .int 0, .null, .null, .null, .int 0, .int 0, .int 0, .int 0, .int 0, .int 0, .int 0, .int 0, .int 0, .int 0, .int 0, .int 0, .null, .int 0, .int 0, .null, .null, .int 0, .int 0, .int 0, .int 0, .null, .null, .null, .null, .null, .null, .null, .null, .int 0, .int 0, .int 0, .int 0, .int 0, .int 0, .int 0, .int 0]) (fun _ => rfl) (by decide) (Nat.le_of_ble_eq_true rfl) (by decide) (by decide) (by decide) (by decide) (by decide) fl_X9_7 rfl (by decide +kernel) dX9_init_8 dX9_init_10 (fun a1 V1 la1 E1 H locs hN hS hI => ?_)
  refine lv_aload_n hx hb dX9_init_13 rfl (lv_at hl 0 rfl) ?_
  refine lv_bipush (v := 8) hx hb dX9_init_14 (by decide) ?_
  refine md_step X hN hS hI hV9 ha0 h30 2 (by simp) (fun a2 => [.int 0, .ref a1, .ref a2, .null, .null, .int 0, .int 0, .null, .null, .null, .int 0, .int 0, .int 0, .int 0, .int 0, .int 0, .int 0, .int 0, .int 0, .int 0, .int 0, .int 0, .null, .int 0, .int 0, .null, .null, .int 0, .int 0, .int 0, .int 0, .null, .null, .null, .null, .null, .null, .null, .null, .int 0, .int 0, .int 0, .int 0, .int 0, .int 0, .int 0, .int 0]) (fun _ => rfl) (by decide) (Nat.le_of_ble_eq_true rfl) (by decide) (by decide) (by decide) (by decide) (by decide) fl_X9_13 rfl (by decide +kernel) dX9_init_16 dX9_init_18 (fun a2 V1 la1 E1 H locs hN hS hI => ?_)
  refine lv_aload_n hx hb dX9_init_21 rfl (lv_at hl 0 rfl) ?_
  refine lv_iconst (v := 4) hx hb dX9_init_22 (by decide) ?_
  refine md_step X hN hS hI hV9 ha0 h30 3 (by simp) (fun a3 => [.int 0, .ref a1, .ref a2, .ref a3, .null, .int 0, .int 0, .null, .null, .null, .int 0, .int 0, .int 0, .int 0, .int 0, .int 0, .int 0, .int 0, .int 0, .int 0, .int 0, .int 0, .null, .int 0, .int 0, .null, .null, .int 0, .int 0, .int 0, .int 0, .null, .null, .null, .null, .null, .null, .null, .null, .int 0, .int 0, .int 0, .int 0, .int 0, .int 0, .int 0, .int 0]) (fun _ => rfl) (by decide) (Nat.le_of_ble_eq_true rfl) (by decide) (by decide) (by decide) (by decide) (by decide) fl_X9_16 rfl (by decide +kernel) dX9_init_23 dX9_init_25 (fun a3 V1 la1 E1 H locs hN hS hI => ?_)
  refine lv_aload_n hx hb dX9_init_28 rfl (lv_at hl 0 rfl) ?_
  refine lv_sipush (v := 256) hx hb dX9_init_29 (by decide) ?_
  refine md_step X hN hS hI hV9 ha0 h30 4 (by simp) (fun a4 => [.int 0, .ref a1, .ref a2, .ref a3, .ref a4, .int 0, .int 0, .null, .null, .null, .int 0, .int 0, .int 0, .int 0, .int 0, .int 0, .int 0, .int 0, .int 0, .int 0, .int 0, .int 0, .null, .int 0, .int 0, .null, .null, .int 0, .int 0, .int 0, .int 0, .null, .null, .null, .null, .null, .null, .null, .null, .int 0, .int 0, .int 0, .int 0, .int 0, .int 0, .int 0, .int 0]) (fun _ => rfl) (by decide) (Nat.le_of_ble_eq_true rfl) (by decide) (by decide) (by decide) (by decide) (by decide) fl_X9_19 rfl (by decide +kernel) dX9_init_32 dX9_init_34 (fun a4 V1 la1 E1 H locs hN hS hI => ?_)
  refine lv_aload_n hx hb dX9_init_37 rfl (lv_at hl 0 rfl) ?_
  refine lv_bipush (v := 21) hx hb dX9_init_38 (by decide) ?_
  refine md_step X hN hS hI hV9 ha0 h30 7 (by simp) (fun a7 => [.int 0, .ref a1, .ref a2, .ref a3, .ref a4, .int 0, .int 0, .ref a7, .null, .null, .int 0, .int 0, .int 0, .int 0, .int 0, .int 0, .int 0, .int 0, .int 0, .int 0, .int 0, .int 0, .null, .int 0, .int 0, .null, .null, .int 0, .int 0, .int 0, .int 0, .null, .null, .null, .null, .null, .null, .null, .null, .int 0, .int 0, .int 0, .int 0, .int 0, .int 0, .int 0, .int 0]) (fun _ => rfl) (by decide) (Nat.le_of_ble_eq_true rfl) (by decide) (by decide) (by decide) (by decide) (by decide) fl_X9_22 rfl (by decide +kernel) dX9_init_40 dX9_init_42 (fun a7 V1 la1 E1 H locs hN hS hI => ?_)
  refine lv_aload_n hx hb dX9_init_45 rfl (lv_at hl 0 rfl) ?_
  refine lv_bipush (v := 21) hx hb dX9_init_46 (by decide) ?_
  refine md_step X hN hS hI hV9 ha0 h30 8 (by simp) (fun a8 => [.int 0, .ref a1, .ref a2, .ref a3, .ref a4, .int 0, .int 0, .ref a7, .ref a8, .null, .int 0, .int 0, .int 0, .int 0, .int 0, .int 0, .int 0, .int 0, .int 0, .int 0, .int 0, .int 0, .null, .int 0, .int 0, .null, .null, .int 0, .int 0, .int 0, .int 0, .null, .null, .null, .null, .null, .null, .null, .null, .int 0, .int 0, .int 0, .int 0, .int 0, .int 0, .int 0, .int 0]) (fun _ => rfl) (by decide) (Nat.le_of_ble_eq_true rfl) (by decide) (by decide) (by decide) (by decide) (by decide) fl_X9_25 rfl (by decide +kernel) dX9_init_48 dX9_init_50 (fun a8 V1 la1 E1 H locs hN hS hI => ?_)
  refine lv_aload_n hx hb dX9_init_53 rfl (lv_at hl 0 rfl) ?_
  refine lv_bipush (v := 21) hx hb dX9_init_54 (by decide) ?_
  refine md_step X hN hS hI hV9 ha0 h30 9 (by simp) (fun a9 => [.int 0, .ref a1, .ref a2, .ref a3, .ref a4, .int 0, .int 0, .ref a7, .ref a8, .ref a9, .int 0, .int 0, .int 0, .int 0, .int 0, .int 0, .int 0, .int 0, .int 0, .int 0, .int 0, .int 0, .null, .int 0, .int 0, .null, .null, .int 0, .int 0, .int 0, .int 0, .null, .null, .null, .null, .null, .null, .null, .null, .int 0, .int 0, .int 0, .int 0, .int 0, .int 0, .int 0, .int 0]) (fun _ => rfl) (by decide) (Nat.le_of_ble_eq_true rfl) (by decide) (by decide) (by decide) (by decide) (by decide) fl_X9_28 rfl (by decide +kernel) dX9_init_56 dX9_init_58 (fun a9 V1 la1 E1 H locs hN hS hI => ?_)
  refine lv_aload_n hx hb dX9_init_61 rfl (lv_at hl 0 rfl) ?_
  refine lv_iconst (v := -1) hx hb dX9_init_62 (by decide) ?_
  refine md_int X hN hS hI hV9 ha0 h30 10 [.int 0, .ref a1, .ref a2, .ref a3, .ref a4, .int 0, .int 0, .ref a7, .ref a8, .ref a9, .int (-1), .int 0, .int 0, .int 0, .int 0, .int 0, .int 0, .int 0, .int 0, .int 0, .int 0, .int 0, .null, .int 0, .int 0, .null, .null, .int 0, .int 0, .int 0, .int 0, .null, .null, .null, .null, .null, .null, .null, .null, .int 0, .int 0, .int 0, .int 0, .int 0, .int 0, .int 0, .int 0] rfl (by decide) (Nat.le_of_ble_eq_true rfl) fl_X9_31 rfl (by decide +kernel) dX9_init_63 (fun E1 H locs hN hS hI => ?_)
  refine lv_aload_n hx hb dX9_init_66 rfl (lv_at hl 0 rfl) ?_
  refine lv_bipush (v := 8) hx hb dX9_init_67 (by decide) ?_
  refine md_step X hN hS hI hV9 ha0 h30 22 (by simp) (fun a22 => [.int 0, .ref a1, .ref a2, .ref a3, .ref a4, .int 0, .int 0, .ref a7, .ref a8, .ref a9, .int (-1), .int 0, .int 0, .int 0, .int 0, .int 0, .int 0, .int 0, .int 0, .int 0, .int 0, .int 0, .ref a22, .int 0, .int 0, .null, .null, .int 0, .int 0, .int 0, .int 0, .null, .null, .null, .null, .null, .null, .null, .null, .int 0, .int 0, .int 0, .int 0, .int 0, .int 0, .int 0, .int 0]) (fun _ => rfl) (by decide) (Nat.le_of_ble_eq_true rfl) (by decide) (by decide) (by decide) (by decide) (by decide) fl_X9_35 rfl (by decide +kernel) dX9_init_69 dX9_init_71 (fun a22 V1 la1 E1 H locs hN hS hI => ?_)
  refine lv_aload_n hx hb dX9_init_74 rfl (lv_at hl 0 rfl) ?_
  refine lv_bipush (v := 61) hx hb dX9_init_75 (by decide) ?_
  refine md_step X hN hS hI hV9 ha0 h30 25 (by simp) (fun a25 => [.int 0, .ref a1, .ref a2, .ref a3, .ref a4, .int 0, .int 0, .ref a7, .ref a8, .ref a9, .int (-1), .int 0, .int 0, .int 0, .int 0, .int 0, .int 0, .int 0, .int 0, .int 0, .int 0, .int 0, .ref a22, .int 0, .int 0, .ref a25, .null, .int 0, .int 0, .int 0, .int 0, .null, .null, .null, .null, .null, .null, .null, .null, .int 0, .int 0, .int 0, .int 0, .int 0, .int 0, .int 0, .int 0]) (fun _ => rfl) (by decide) (Nat.le_of_ble_eq_true rfl) (by decide) (by decide) (by decide) (by decide) (by decide) fl_X9_38 rfl (by decide +kernel) dX9_init_77 dX9_init_79 (fun a25 V1 la1 E1 H locs hN hS hI => ?_)
  refine lv_aload_n hx hb dX9_init_82 rfl (lv_at hl 0 rfl) ?_
  refine lv_bipush (v := 61) hx hb dX9_init_83 (by decide) ?_
  refine md_step X hN hS hI hV9 ha0 h30 26 (by simp) (fun a26 => [.int 0, .ref a1, .ref a2, .ref a3, .ref a4, .int 0, .int 0, .ref a7, .ref a8, .ref a9, .int (-1), .int 0, .int 0, .int 0, .int 0, .int 0, .int 0, .int 0, .int 0, .int 0, .int 0, .int 0, .ref a22, .int 0, .int 0, .ref a25, .ref a26, .int 0, .int 0, .int 0, .int 0, .null, .null, .null, .null, .null, .null, .null, .null, .int 0, .int 0, .int 0, .int 0, .int 0, .int 0, .int 0, .int 0]) (fun _ => rfl) (by decide) (Nat.le_of_ble_eq_true rfl) (by decide) (by decide) (by decide) (by decide) (by decide) fl_X9_41 rfl (by decide +kernel) dX9_init_85 dX9_init_87 (fun a26 V1 la1 E1 H locs hN hS hI => ?_)
  refine lv_aload_n hx hb dX9_init_90 rfl (lv_at hl 0 rfl) ?_
  refine lv_bipush (v := 12) hx hb dX9_init_91 (by decide) ?_
  refine md_step X hN hS hI hV9 ha0 h30 31 (by simp) (fun a31 => [.int 0, .ref a1, .ref a2, .ref a3, .ref a4, .int 0, .int 0, .ref a7, .ref a8, .ref a9, .int (-1), .int 0, .int 0, .int 0, .int 0, .int 0, .int 0, .int 0, .int 0, .int 0, .int 0, .int 0, .ref a22, .int 0, .int 0, .ref a25, .ref a26, .int 0, .int 0, .int 0, .int 0, .ref a31, .null, .null, .null, .null, .null, .null, .null, .int 0, .int 0, .int 0, .int 0, .int 0, .int 0, .int 0, .int 0]) (fun _ => rfl) (by decide) (Nat.le_of_ble_eq_true rfl) (by decide) (by decide) (by decide) (by decide) (by decide) fl_X9_44 rfl (by decide +kernel) dX9_init_93 dX9_init_95 (fun a31 V1 la1 E1 H locs hN hS hI => ?_)
  refine lv_aload_n hx hb dX9_init_98 rfl (lv_at hl 0 rfl) ?_
  refine lv_bipush (v := 12) hx hb dX9_init_99 (by decide) ?_
  refine md_step X hN hS hI hV9 ha0 h30 32 (by simp) (fun a32 => [.int 0, .ref a1, .ref a2, .ref a3, .ref a4, .int 0, .int 0, .ref a7, .ref a8, .ref a9, .int (-1), .int 0, .int 0, .int 0, .int 0, .int 0, .int 0, .int 0, .int 0, .int 0, .int 0, .int 0, .ref a22, .int 0, .int 0, .ref a25, .ref a26, .int 0, .int 0, .int 0, .int 0, .ref a31, .ref a32, .null, .null, .null, .null, .null, .null, .int 0, .int 0, .int 0, .int 0, .int 0, .int 0, .int 0, .int 0]) (fun _ => rfl) (by decide) (Nat.le_of_ble_eq_true rfl) (by decide) (by decide) (by decide) (by decide) (by decide) fl_X9_47 rfl (by decide +kernel) dX9_init_101 dX9_init_103 (fun a32 V1 la1 E1 H locs hN hS hI => ?_)
  refine lv_aload_n hx hb dX9_init_106 rfl (lv_at hl 0 rfl) ?_
  refine lv_bipush (v := 12) hx hb dX9_init_107 (by decide) ?_
  refine md_step X hN hS hI hV9 ha0 h30 33 (by simp) (fun a33 => [.int 0, .ref a1, .ref a2, .ref a3, .ref a4, .int 0, .int 0, .ref a7, .ref a8, .ref a9, .int (-1), .int 0, .int 0, .int 0, .int 0, .int 0, .int 0, .int 0, .int 0, .int 0, .int 0, .int 0, .ref a22, .int 0, .int 0, .ref a25, .ref a26, .int 0, .int 0, .int 0, .int 0, .ref a31, .ref a32, .ref a33, .null, .null, .null, .null, .null, .int 0, .int 0, .int 0, .int 0, .int 0, .int 0, .int 0, .int 0]) (fun _ => rfl) (by decide) (Nat.le_of_ble_eq_true rfl) (by decide) (by decide) (by decide) (by decide) (by decide) fl_X9_50 rfl (by decide +kernel) dX9_init_109 dX9_init_111 (fun a33 V1 la1 E1 H locs hN hS hI => ?_)
  refine lv_aload_n hx hb dX9_init_114 rfl (lv_at hl 0 rfl) ?_
  refine lv_bipush (v := 12) hx hb dX9_init_115 (by decide) ?_
  refine md_step X hN hS hI hV9 ha0 h30 34 (by simp) (fun a34 => [.int 0, .ref a1, .ref a2, .ref a3, .ref a4, .int 0, .int 0, .ref a7, .ref a8, .ref a9, .int (-1), .int 0, .int 0, .int 0, .int 0, .int 0, .int 0, .int 0, .int 0, .int 0, .int 0, .int 0, .ref a22, .int 0, .int 0, .ref a25, .ref a26, .int 0, .int 0, .int 0, .int 0, .ref a31, .ref a32, .ref a33, .ref a34, .null, .null, .null, .null, .int 0, .int 0, .int 0, .int 0, .int 0, .int 0, .int 0, .int 0]) (fun _ => rfl) (by decide) (Nat.le_of_ble_eq_true rfl) (by decide) (by decide) (by decide) (by decide) (by decide) fl_X9_53 rfl (by decide +kernel) dX9_init_117 dX9_init_119 (fun a34 V1 la1 E1 H locs hN hS hI => ?_)
  refine lv_aload_n hx hb dX9_init_122 rfl (lv_at hl 0 rfl) ?_
  refine lv_bipush (v := 12) hx hb dX9_init_123 (by decide) ?_
  refine md_step X hN hS hI hV9 ha0 h30 35 (by simp) (fun a35 => [.int 0, .ref a1, .ref a2, .ref a3, .ref a4, .int 0, .int 0, .ref a7, .ref a8, .ref a9, .int (-1), .int 0, .int 0, .int 0, .int 0, .int 0, .int 0, .int 0, .int 0, .int 0, .int 0, .int 0, .ref a22, .int 0, .int 0, .ref a25, .ref a26, .int 0, .int 0, .int 0, .int 0, .ref a31, .ref a32, .ref a33, .ref a34, .ref a35, .null, .null, .null, .int 0, .int 0, .int 0, .int 0, .int 0, .int 0, .int 0, .int 0]) (fun _ => rfl) (by decide) (Nat.le_of_ble_eq_true rfl) (by decide) (by decide) (by decide) (by decide) (by decide) fl_X9_56 rfl (by decide +kernel) dX9_init_125 dX9_init_127 (fun a35 V1 la1 E1 H locs hN hS hI => ?_)
  refine lv_aload_n hx hb dX9_init_130 rfl (lv_at hl 0 rfl) ?_
  refine lv_bipush (v := 12) hx hb dX9_init_131 (by decide) ?_
  refine md_step X hN hS hI hV9 ha0 h30 36 (by simp) (fun a36 => [.int 0, .ref a1, .ref a2, .ref a3, .ref a4, .int 0, .int 0, .ref a7, .ref a8, .ref a9, .int (-1), .int 0, .int 0, .int 0, .int 0, .int 0, .int 0, .int 0, .int 0, .int 0, .int 0, .int 0, .ref a22, .int 0, .int 0, .ref a25, .ref a26, .int 0, .int 0, .int 0, .int 0, .ref a31, .ref a32, .ref a33, .ref a34, .ref a35, .ref a36, .null, .null, .int 0, .int 0, .int 0, .int 0, .int 0, .int 0, .int 0, .int 0]) (fun _ => rfl) (by decide) (Nat.le_of_ble_eq_true rfl) (by decide) (by decide) (by decide) (by decide) (by decide) fl_X9_59 rfl (by decide +kernel) dX9_init_133 dX9_init_135 (fun a36 V1 la1 E1 H locs hN hS hI => ?_)
  refine lv_aload_n hx hb dX9_init_138 rfl (lv_at hl 0 rfl) ?_
  refine lv_bipush (v := 96) hx hb dX9_init_139 (by decide) ?_
  refine md_step X hN hS hI hV9 ha0 h30 37 (by simp) (fun a37 => [.int 0, .ref a1, .ref a2, .ref a3, .ref a4, .int 0, .int 0, .ref a7, .ref a8, .ref a9, .int (-1), .int 0, .int 0, .int 0, .int 0, .int 0, .int 0, .int 0, .int 0, .int 0, .int 0, .int 0, .ref a22, .int 0, .int 0, .ref a25, .ref a26, .int 0, .int 0, .int 0, .int 0, .ref a31, .ref a32, .ref a33, .ref a34, .ref a35, .ref a36, .ref a37, .null, .int 0, .int 0, .int 0, .int 0, .int 0, .int 0, .int 0, .int 0]) (fun _ => rfl) (by decide) (Nat.le_of_ble_eq_true rfl) (by decide) (by decide) (by decide) (by decide) (by decide) fl_X9_62 rfl (by decide +kernel) dX9_init_141 dX9_init_143 (fun a37 V1 la1 E1 H locs hN hS hI => ?_)
  refine lv_aload_n hx hb dX9_init_146 rfl (lv_at hl 0 rfl) ?_
  refine lv_iconst (v := 4) hx hb dX9_init_147 (by decide) ?_
  refine md_step X hN hS hI hV9 ha0 h30 38 (by simp) (fun a38 => [.int 0, .ref a1, .ref a2, .ref a3, .ref a4, .int 0, .int 0, .ref a7, .ref a8, .ref a9, .int (-1), .int 0, .int 0, .int 0, .int 0, .int 0, .int 0, .int 0, .int 0, .int 0, .int 0, .int 0, .ref a22, .int 0, .int 0, .ref a25, .ref a26, .int 0, .int 0, .int 0, .int 0, .ref a31, .ref a32, .ref a33, .ref a34, .ref a35, .ref a36, .ref a37, .ref a38, .int 0, .int 0, .int 0, .int 0, .int 0, .int 0, .int 0, .int 0]) (fun _ => rfl) (by decide) (Nat.le_of_ble_eq_true rfl) (by decide) (by decide) (by decide) (by decide) (by decide) fl_X9_65 rfl (by decide +kernel) dX9_init_148 dX9_init_150 (fun a38 V1 la1 E1 H locs hN hS hI => ?_)
  refine lv_aload_n hx hb dX9_init_153 rfl (lv_at hl 0 rfl) ?_
  refine lv_iconst (v := -1) hx hb dX9_init_154 (by decide) ?_
  refine md_int X hN hS hI hV9 ha0 h30 41 [.int 0, .ref a1, .ref a2, .ref a3, .ref a4, .int 0, .int 0, .ref a7, .ref a8, .ref a9, .int (-1), .int 0, .int 0, .int 0, .int 0, .int 0, .int 0, .int 0, .int 0, .int 0, .int 0, .int 0, .ref a22, .int 0, .int 0, .ref a25, .ref a26, .int 0, .int 0, .int 0, .int 0, .ref a31, .ref a32, .ref a33, .ref a34, .ref a35, .ref a36, .ref a37, .ref a38, .int 0, .int 0, .int (-1), .int 0, .int 0, .int 0, .int 0, .int 0] rfl (by decide) (Nat.le_of_ble_eq_true rfl) fl_X9_68 rfl (by decide +kernel) dX9_init_155 (fun E1 H locs hN hS hI => ?_)
  refine lv_aload_n hx hb dX9_init_158 rfl (lv_at hl 0 rfl) ?_
  refine lv_iconst (v := -1) hx hb dX9_init_159 (by decide) ?_
  refine md_int X hN hS hI hV9 ha0 h30 42 [.int 0, .ref a1, .ref a2, .ref a3, .ref a4, .int 0, .int 0, .ref a7, .ref a8, .ref a9, .int (-1), .int 0, .int 0, .int 0, .int 0, .int 0, .int 0, .int 0, .int 0, .int 0, .int 0, .int 0, .ref a22, .int 0, .int 0, .ref a25, .ref a26, .int 0, .int 0, .int 0, .int 0, .ref a31, .ref a32, .ref a33, .ref a34, .ref a35, .ref a36, .ref a37, .ref a38, .int 0, .int 0, .int (-1), .int (-1), .int 0, .int 0, .int 0, .int 0] rfl (by decide) (Nat.le_of_ble_eq_true rfl) fl_X9_71 rfl (by decide +kernel) dX9_init_160 (fun E1 H locs hN hS hI => ?_)
  have tail : ∀ v : Int32, v = nI mo → W p l e rm_X9_init s m [.ref a0, .int mv].toArray below meth c H locs 18 1657 (MQ below (iQc D sz0 (iMd cyI mo V la E)) [.ref a0, .int mv].toArray s rm_X9_init.cells rm_X9_init.slots (fun q => sz0 ≤ q)) (F0 m 184 ls [.int v, .ref a0]) := by
    intro v hv
    subst hv
    refine md_int X hN hS hI hV9 ha0 h30 5 [.int 0, .ref a1, .ref a2, .ref a3, .ref a4, .int (nI mo), .int 0, .ref a7, .ref a8, .ref a9, .int (-1), .int 0, .int 0, .int 0, .int 0, .int 0, .int 0, .int 0, .int 0, .int 0, .int 0, .int 0, .ref a22, .int 0, .int 0, .ref a25, .ref a26, .int 0, .int 0, .int 0, .int 0, .ref a31, .ref a32, .ref a33, .ref a34, .ref a35, .ref a36, .ref a37, .ref a38, .int 0, .int 0, .int (-1), .int (-1), .int 0, .int 0, .int 0, .int 0] rfl (by decide) (Nat.le_of_ble_eq_true rfl) fl_X9_74 rfl (by decide +kernel) dX9_init_184 (fun E1 H locs hN hS hI => ?_)
    obtain ⟨i1, i2, i3, i4, i5⟩ := hI
    refine i_ret X hN hS ⟨fun c k => ?_, i2, i3, ?_, fun k hk => ?_⟩ (by decide) (by decide) dX9_init_187
    · rw [i1]
      constructor
      · rintro (h | ⟨h1, h2⟩)
        · exact Or.inl h
        · refine Or.inr ⟨h1, ?_⟩
          simp only [List.map_cons, List.map_nil, List.mem_cons, List.not_mem_nil, or_false] at h2
          rcases h2 with rfl | rfl | rfl | rfl | rfl | rfl | rfl | rfl | rfl | rfl | rfl | rfl | rfl | rfl | rfl | rfl | rfl | rfl <;> decide
      · rintro (h | ⟨h1, h2⟩)
        · exact Or.inl h
        · exact Or.inr ⟨h1, lenM_cases h2⟩
    · rw [i4]
      have h38 : a38 = la1 30 38 := ((i5 (38, a38) (List.mem_of_getElem? (i := 0) rfl)).1).symm
      have h37 : a37 = la1 30 37 := ((i5 (37, a37) (List.mem_of_getElem? (i := 1) rfl)).1).symm
      have h36 : a36 = la1 30 36 := ((i5 (36, a36) (List.mem_of_getElem? (i := 2) rfl)).1).symm
      have h35 : a35 = la1 30 35 := ((i5 (35, a35) (List.mem_of_getElem? (i := 3) rfl)).1).symm
      have h34 : a34 = la1 30 34 := ((i5 (34, a34) (List.mem_of_getElem? (i := 4) rfl)).1).symm
      have h33 : a33 = la1 30 33 := ((i5 (33, a33) (List.mem_of_getElem? (i := 5) rfl)).1).symm
      have h32 : a32 = la1 30 32 := ((i5 (32, a32) (List.mem_of_getElem? (i := 6) rfl)).1).symm
      have h31 : a31 = la1 30 31 := ((i5 (31, a31) (List.mem_of_getElem? (i := 7) rfl)).1).symm
      have h26 : a26 = la1 30 26 := ((i5 (26, a26) (List.mem_of_getElem? (i := 8) rfl)).1).symm
      have h25 : a25 = la1 30 25 := ((i5 (25, a25) (List.mem_of_getElem? (i := 9) rfl)).1).symm
      have h22 : a22 = la1 30 22 := ((i5 (22, a22) (List.mem_of_getElem? (i := 10) rfl)).1).symm
      have h9 : a9 = la1 30 9 := ((i5 (9, a9) (List.mem_of_getElem? (i := 11) rfl)).1).symm
      have h8 : a8 = la1 30 8 := ((i5 (8, a8) (List.mem_of_getElem? (i := 12) rfl)).1).symm
      have h7 : a7 = la1 30 7 := ((i5 (7, a7) (List.mem_of_getElem? (i := 13) rfl)).1).symm
      have h4 : a4 = la1 30 4 := ((i5 (4, a4) (List.mem_of_getElem? (i := 14) rfl)).1).symm
      have h3 : a3 = la1 30 3 := ((i5 (3, a3) (List.mem_of_getElem? (i := 15) rfl)).1).symm
      have h2 : a2 = la1 30 2 := ((i5 (2, a2) (List.mem_of_getElem? (i := 16) rfl)).1).symm
      have h1 : a1 = la1 30 1 := ((i5 (1, a1) (List.mem_of_getElem? (i := 17) rfl)).1).symm
      rw [h38, h37, h36, h35, h34, h33, h32, h31, h26, h25, h22, h9, h8, h7, h4, h3, h2, h1]
      rfl
    · have h2 := lenM_cases hk
      simp only [List.mem_cons, List.not_mem_nil, or_false] at h2
      rcases h2 with rfl | rfl | rfl | rfl | rfl | rfl | rfl | rfl | rfl | rfl | rfl | rfl | rfl | rfl | rfl | rfl | rfl | rfl
      · exact (i5 (38, a38) (List.mem_of_getElem? (i := 0) rfl)).2
      · exact (i5 (37, a37) (List.mem_of_getElem? (i := 1) rfl)).2
      · exact (i5 (36, a36) (List.mem_of_getElem? (i := 2) rfl)).2
      · exact (i5 (35, a35) (List.mem_of_getElem? (i := 3) rfl)).2
      · exact (i5 (34, a34) (List.mem_of_getElem? (i := 4) rfl)).2
      · exact (i5 (33, a33) (List.mem_of_getElem? (i := 5) rfl)).2
      · exact (i5 (32, a32) (List.mem_of_getElem? (i := 6) rfl)).2
      · exact (i5 (31, a31) (List.mem_of_getElem? (i := 7) rfl)).2
      · exact (i5 (26, a26) (List.mem_of_getElem? (i := 8) rfl)).2
      · exact (i5 (25, a25) (List.mem_of_getElem? (i := 9) rfl)).2
      · exact (i5 (22, a22) (List.mem_of_getElem? (i := 10) rfl)).2
      · exact (i5 (9, a9) (List.mem_of_getElem? (i := 11) rfl)).2
      · exact (i5 (8, a8) (List.mem_of_getElem? (i := 12) rfl)).2
      · exact (i5 (7, a7) (List.mem_of_getElem? (i := 13) rfl)).2
      · exact (i5 (4, a4) (List.mem_of_getElem? (i := 14) rfl)).2
      · exact (i5 (3, a3) (List.mem_of_getElem? (i := 15) rfl)).2
      · exact (i5 (2, a2) (List.mem_of_getElem? (i := 16) rfl)).2
      · exact (i5 (1, a1) (List.mem_of_getElem? (i := 17) rfl)).2
  refine lv_aload_n hx hb dX9_init_163 rfl (lv_at hl 0 rfl) ?_
  refine lv_iload_n hx hb dX9_init_164 rfl (lv_at hl 1 rfl) ?_
  refine lv_if_ge (tgt := 172) hx hb dX9_init_165 (by decide) (fun c1 => ?_) (fun c1 => ?_)
  · have c2 : ¬ mv < 0 := Int32.not_lt.mpr c1
    refine lv_iload_n hx hb dX9_init_172 rfl (lv_at hl 1 rfl) ?_
    refine lv_bipush (v := 20) hx hb dX9_init_173 (by decide) ?_
    refine lv_icmp_le (tgt := 183) hx hb dX9_init_175 (by decide) (fun c3 => ?_) (fun c3 => ?_)
    · refine lv_iload_n hx hb dX9_init_183 rfl (lv_at hl 1 rfl) ?_
      exact tail _ (by rw [hmv, if_neg c2, if_pos c3])
    · refine lv_bipush (v := 20) hx hb dX9_init_178 (by decide) ?_
      refine lv_goto (tgt := 184) hx hb dX9_init_180 (by decide) ?_
      exact tail _ (by rw [hmv, if_neg c2, if_neg c3])
  · have c2 : mv < 0 := Int32.not_le.mp c1
    refine lv_iconst (v := 0) hx hb dX9_init_168 (by decide) ?_
    refine lv_goto (tgt := 184) hx hb dX9_init_169 (by decide) ?_
    exact tail _ (by rw [hmv, if_pos c2])
