abbrev rm_X6_run : Room := { frames := 5, cells := 0, slots := 0, locals := 115 }
def fX6_run_b111 (N mo : Nat) (k68 : Int32 → xSt → Option (Int32 × xSt)) (a5 : Int32) (st : xSt) : Option (Int32 × xSt) := nm (a5 + (1 : Int32)) (fun x27 => k68 x27 st)
set_option maxHeartbeats 4000000 in
set_option maxRecDepth 100000 in
theorem BX6_run_111 {p : Program} {l : Launch} {e : Env} {s : State} {m : MethodId} {args : Array Value} {below : List Frame} {meth : Method} {c : Code} {D : va_G} {la : Nat → Nat → Nat} {cyI cyF cyM : ClassId} {t0 mo N : Nat} {k68 : Int32 → xSt → Option (Int32 × xSt)} {r : Int32} {st' : xSt} (X : xCx D (VC mo) la cyI cyF cyM t0 p m c cX6_run 7 s args RX6) (hr : meth.sig.returnType = (some .int)) (hlk : meth.locks = false) (hk68 : ∀ (a5 : Int32) (st : xSt) (H : Heap) (locs : List Loc) (ls : Array Slot), k68 a5 st = some (r, st') → HW D (VC mo) la (ECf cyI cyF cyM mo la) st H → va_S (xA (VC mo) la) s.heap H locs → lv_has ls 7 [(0, .ref (la 6 0)), (5, .int a5)] → W p l e rm_X6_run s m args below meth c H locs 0 0 (MQ below (xQc D (VC mo) la (ECf cyI cyF cyM mo la) (some (.int r)) st') args s 0 0 (xA (VC mo) la)) (F0 m 68 ls [])) : ∀ (a5 : Int32) (st : xSt) (H : Heap) (locs : List Loc) (ls : Array Slot), fX6_run_b111 N mo k68 a5 st = some (r, st') → HW D (VC mo) la (ECf cyI cyF cyM mo la) st H → va_S (xA (VC mo) la) s.heap H locs → lv_has ls 7 [(0, .ref (la 6 0)), (5, .int a5)] → W p l e rm_X6_run s m args below meth c H locs 0 0 (MQ below (xQc D (VC mo) la (ECf cyI cyF cyM mo la) (some (.int r)) st') args s 0 0 (xA (VC mo) la)) (F0 m 111 ls []) := by
  have hx := X.1.1
  have hb := X.1.2.1
  intro a5 st H locs ls hf hP hS hl
  unfold fX6_run_b111 at hf
  obtain ⟨x27, ex⟩ : ∃ y : Int32, y = (a5 + (1 : Int32)) := ⟨_, rfl⟩
  replace hf := nm_of hf ex
  refine lv_iinc (v := x27) (lv' := [(5, .int x27), (0, .ref (la 6 0))]) hx hb dX6_run_111 hl (k := 1) rfl (by rw [ex]; rfl) (by decide) rfl (fun ls hl => ?_)
  clear ex
  refine lv_goto (tgt := 68) hx hb dX6_run_114 (by decide) ?_
  exact hk68 _ _ _ _ _  hf hP hS (lv_sub hl [1, 0] rfl)
def fX6_run_b117 (N mo : Nat) (st : xSt) : Option (Int32 × xSt) := if (st.1 5 0 1) = (0 : Int32) then some ((0 : Int32), st) else some (((-10 : Int32) - (st.1 5 0 1)), st)
set_option maxHeartbeats 4000000 in
set_option maxRecDepth 100000 in
theorem BX6_run_117 {p : Program} {l : Launch} {e : Env} {s : State} {m : MethodId} {args : Array Value} {below : List Frame} {meth : Method} {c : Code} {D : va_G} {la : Nat → Nat → Nat} {cyI cyF cyM : ClassId} {t0 mo N : Nat} {r : Int32} {st' : xSt} (X : xCx D (VC mo) la cyI cyF cyM t0 p m c cX6_run 7 s args RX6) (hr : meth.sig.returnType = (some .int)) (hlk : meth.locks = false) : ∀ (st : xSt) (H : Heap) (locs : List Loc) (ls : Array Slot), fX6_run_b117 N mo st = some (r, st') → HW D (VC mo) la (ECf cyI cyF cyM mo la) st H → va_S (xA (VC mo) la) s.heap H locs → lv_has ls 7 [(0, .ref (la 6 0))] → W p l e rm_X6_run s m args below meth c H locs 0 0 (MQ below (xQc D (VC mo) la (ECf cyI cyF cyM mo la) (some (.int r)) st') args s 0 0 (xA (VC mo) la)) (F0 m 117 ls []) := by
  have hx := X.1.1
  have hb := X.1.2.1
  intro st H locs ls hf hP hS hl
  unfold fX6_run_b117 at hf
  refine lv_aload_n hx hb dX6_run_117 rfl (lv_at hl 0 rfl) ?_
  refine gC_Runner_outcome X hP fl_X6_12 dX6_run_118 ?_
  refine gC_Outcome_fault X hP fl_X6_86 dX6_run_121 ?_
  refine lv_if_ne (tgt := 131) hx hb dX6_run_124 (by decide) (fun c26 => ?_) (fun c26 => ?_)
  · replace hf := (if_neg c26).symm.trans hf
    refine lv_bipush (v := -10) hx hb dX6_run_131 (by decide) ?_
    refine lv_aload_n hx hb dX6_run_133 rfl (lv_at hl 0 rfl) ?_
    refine gC_Runner_outcome X hP fl_X6_12 dX6_run_134 ?_
    refine gC_Outcome_fault X hP fl_X6_86 dX6_run_137 ?_
    refine lv_isub hx hb dX6_run_140 ?_
    obtain ⟨rfl, rfl⟩ := sp_2 hf
    exact w_iret X hr hlk hP hS dX6_run_141
  · replace hf := (if_pos c26).symm.trans hf
    refine lv_iconst (v := 0) hx hb dX6_run_127 (by decide) ?_
    refine lv_goto (tgt := 141) hx hb dX6_run_128 (by decide) ?_
    obtain ⟨rfl, rfl⟩ := sp_2 hf
    exact w_iret X hr hlk hP hS dX6_run_141
def fX6_run_b68 (N mo : Nat) : Nat → Int32 → xSt → Option (Int32 × xSt)
  | 0, _, _ => none
  | n + 1, a5, st => if (400 : Int32) < a5 then fX6_run_b117 N mo st else if (st.1 6 0 10) ≤ (0 : Int32) then fX6_run_b117 N mo st else if ((st.1 6 0 10) - (1 : Int32)) < 0 ∨ 12 ≤ (((st.1 6 0 10) - (1 : Int32))).toNatClampNeg then none else nm ((((st.1 6 0 10) - (1 : Int32))).toNatClampNeg) (fun j19 => bd (fX6_fetch N mo j19 st) (fun v22 st20 => if v22 = (0 : Int32) then fX6_run_b111 N mo (fX6_run_b68 N mo n) a5 st20 else Option.bind (fX6_carryOut N mo j19 st20) (fun st24 => fX6_run_b111 N mo (fX6_run_b68 N mo n) a5 st24)))
set_option maxHeartbeats 4000000 in
set_option maxRecDepth 100000 in
theorem BX6_run_68 {p : Program} {l : Launch} {e : Env} {s : State} {m : MethodId} {args : Array Value} {below : List Frame} {meth : Method} {c : Code} {D : va_G} {la : Nat → Nat → Nat} {cyI cyF cyM : ClassId} {t0 mo N : Nat} {r : Int32} {st' : xSt} (X : xCx D (VC mo) la cyI cyF cyM t0 p m c cX6_run 7 s args RX6) (hr : meth.sig.returnType = (some .int)) (hlk : meth.locks = false) : ∀ n : Nat, ∀ (a5 : Int32) (st : xSt) (H : Heap) (locs : List Loc) (ls : Array Slot), fX6_run_b68 N mo n a5 st = some (r, st') → HW D (VC mo) la (ECf cyI cyF cyM mo la) st H → va_S (xA (VC mo) la) s.heap H locs → lv_has ls 7 [(0, .ref (la 6 0)), (5, .int a5)] → W p l e rm_X6_run s m args below meth c H locs 0 0 (MQ below (xQc D (VC mo) la (ECf cyI cyF cyM mo la) (some (.int r)) st') args s 0 0 (xA (VC mo) la)) (F0 m 68 ls []) := by
  have hx := X.1.1
  have hb := X.1.2.1
  intro n
  induction n with
  | zero =>
    intro a5 st H locs ls hf hP hS hl
    rw [fX6_run_b68] at hf
    cases hf
  | succ n ih =>
    intro a5 st H locs ls hf hP hS hl
    rw [fX6_run_b68] at hf
    refine lv_iload hx hb dX6_run_68 (lv_at hl 1 rfl) ?_
    refine lv_sipush (v := 400) hx hb dX6_run_70 (by decide) ?_
    refine lv_icmp_gt (tgt := 117) hx hb dX6_run_73 (by decide) (fun c16 => ?_) (fun c16 => ?_)
    · replace hf := (if_pos c16).symm.trans hf
      exact BX6_run_117 X hr hlk _ _ _ _  hf hP hS (lv_sub hl [0] rfl)
    · replace hf := (if_neg c16).symm.trans hf
      refine lv_aload_n hx hb dX6_run_76 rfl (lv_at hl 0 rfl) ?_
      refine gC_Runner_depth X hP fl_X6_61 dX6_run_77 ?_
      refine lv_if_le (tgt := 117) hx hb dX6_run_80 (by decide) (fun c17 => ?_) (fun c17 => ?_)
      · replace hf := (if_pos c17).symm.trans hf
        exact BX6_run_117 X hr hlk _ _ _ _  hf hP hS (lv_sub hl [0] rfl)
      · replace hf := (if_neg c17).symm.trans hf
        refine lv_aload_n hx hb dX6_run_83 rfl (lv_at hl 0 rfl) ?_
        refine gC_Runner_frames X hP fl_X6_24 dX6_run_84 ?_
        refine lv_aload_n hx hb dX6_run_87 rfl (lv_at hl 0 rfl) ?_
        refine gC_Runner_depth X hP fl_X6_61 dX6_run_88 ?_
        refine lv_iconst (v := 1) hx hb dX6_run_91 (by decide) ?_
        refine lv_isub hx hb dX6_run_92 ?_
        obtain ⟨hn18, hf⟩ := ck_of hf
        refine gC_frames X hP hn18 dX6_run_93 ?_
        obtain ⟨j19, ej, hj19⟩ : ∃ y : Nat, y = (((st.1 6 0 10) - (1 : Int32))).toNatClampNeg ∧ VC mo 2 y := ⟨_, rfl, (Nat.lt_of_not_le (fun z => hn18 (Or.inr z)))⟩
        refine w_top (v' := .ref (la 2 j19)) (by rw [ej]) ?_
        replace hf := nm_of hf ej
        clear ej
        refine lv_astore (lv' := [(6, .ref (la 2 j19)), (0, .ref (la 6 0)), (5, .int a5)]) hx hb dX6_run_94 hl (by decide) rfl (fun ls hl => ?_)
        refine lv_aload_n hx hb dX6_run_96 rfl (lv_at hl 1 rfl) ?_
        refine lv_aload hx hb dX6_run_97 (lv_at hl 0 rfl) ?_
        obtain ⟨v22, st20, hr21, hf⟩ := bd_2 hf
        refine w_V1 X (TX6_fetch l hj19 hr21) hP hS rfl KX6_fetch ml_X6_78 ⟨rfl, rfl⟩ ⟨by decide, by decide⟩ (x_recv (E := fun c i => (ECf cyI cyF cyM mo la) (st.1 c i) st.2 c i) (c0 := 6) (i0 := 0) X.2.2.1 hP rfl (ci := 6) rfl rfl) rfl hl.1 (Nat.le_of_ble_eq_true rfl) dX6_run_99 (fun H locs hP hS => ?_)
        refine lv_if_eq (tgt := 111) hx hb dX6_run_102 (by decide) (fun c23 => ?_) (fun c23 => ?_)
        · replace hf := (if_pos c23).symm.trans hf
          exact BX6_run_111 X hr hlk ih _ _ _ _ _  hf hP hS (lv_sub hl [1, 2] rfl)
        · replace hf := (if_neg c23).symm.trans hf
          refine lv_aload_n hx hb dX6_run_105 rfl (lv_at hl 1 rfl) ?_
          refine lv_aload hx hb dX6_run_106 (lv_at hl 0 rfl) ?_
          obtain ⟨st24, hr25, hf⟩ := bd_of hf
          refine w_V0 X (TX6_carryOut l hj19 hr25) hP hS rfl KX6_carryOut ml_X6_82 ⟨rfl, rfl⟩ ⟨by decide, by decide⟩ (x_recv (E := fun c i => (ECf cyI cyF cyM mo la) (st20.1 c i) st20.2 c i) (c0 := 6) (i0 := 0) X.2.2.1 hP rfl (ci := 6) rfl rfl) rfl hl.1 (Nat.le_of_ble_eq_true rfl) dX6_run_108 (fun H locs hP hS => ?_)
          exact BX6_run_111 X hr hlk ih _ _ _ _ _  hf hP hS (lv_sub hl [1, 2] rfl)
def fX6_run_b36 (N mo : Nat) : Nat → Int32 → Int32 → Int32 → xSt → Option (Int32 × xSt)
  | 0, _, _, _, _ => none
  | n + 1, a1, a3, a5, st => if a3 ≤ a5 then Option.bind (fX6_enter N mo a1 a3 st) (fun st10 => fX6_run_b68 N mo N (0 : Int32) st10) else if a5 < 0 ∨ 4 ≤ (a5).toNatClampNeg then none else if a5 < 0 ∨ 4 ≤ (a5).toNatClampNeg then none else nm (pI st 20 5 (a5).toNatClampNeg (st.1 20 2 (a5).toNatClampNeg)) (fun st14 => nm (a5 + (1 : Int32)) (fun x15 => fX6_run_b36 N mo n a1 a3 x15 st14))
set_option maxHeartbeats 4000000 in
set_option maxRecDepth 100000 in
theorem BX6_run_36 {p : Program} {l : Launch} {e : Env} {s : State} {m : MethodId} {args : Array Value} {below : List Frame} {meth : Method} {c : Code} {D : va_G} {la : Nat → Nat → Nat} {cyI cyF cyM : ClassId} {t0 mo N : Nat} {r : Int32} {st' : xSt} (X : xCx D (VC mo) la cyI cyF cyM t0 p m c cX6_run 7 s args RX6) (hr : meth.sig.returnType = (some .int)) (hlk : meth.locks = false) : ∀ n : Nat, ∀ (a1 : Int32) (a3 : Int32) (a5 : Int32) (st : xSt) (H : Heap) (locs : List Loc) (ls : Array Slot), fX6_run_b36 N mo n a1 a3 a5 st = some (r, st') → HW D (VC mo) la (ECf cyI cyF cyM mo la) st H → va_S (xA (VC mo) la) s.heap H locs → lv_has ls 7 [(0, .ref (la 6 0)), (1, .int a1), (2, .ref (la 20 2)), (3, .int a3), (5, .int a5)] → W p l e rm_X6_run s m args below meth c H locs 0 0 (MQ below (xQc D (VC mo) la (ECf cyI cyF cyM mo la) (some (.int r)) st') args s 0 0 (xA (VC mo) la)) (F0 m 36 ls []) := by
  have hx := X.1.1
  have hb := X.1.2.1
  intro n
  induction n with
  | zero =>
    intro a1 a3 a5 st H locs ls hf hP hS hl
    rw [fX6_run_b36] at hf
    cases hf
  | succ n ih =>
    intro a1 a3 a5 st H locs ls hf hP hS hl
    rw [fX6_run_b36] at hf
    refine lv_iload hx hb dX6_run_36 (lv_at hl 4 rfl) ?_
    refine lv_iload_n hx hb dX6_run_38 rfl (lv_at hl 3 rfl) ?_
    refine lv_icmp_ge (tgt := 59) hx hb dX6_run_39 (by decide) (fun c9 => ?_) (fun c9 => ?_)
    · replace hf := (if_pos c9).symm.trans hf
      refine lv_aload_n hx hb dX6_run_59 rfl (lv_at hl 0 rfl) ?_
      refine lv_iload_n hx hb dX6_run_60 rfl (lv_at hl 1 rfl) ?_
      refine lv_iload_n hx hb dX6_run_61 rfl (lv_at hl 3 rfl) ?_
      obtain ⟨st10, hr11, hf⟩ := bd_of hf
      refine w_V0 X (TX6_enter l hr11) hP hS rfl KX6_enter ml_X6_74 ⟨rfl, rfl⟩ ⟨by decide, by decide⟩ (x_recv (E := fun c i => (ECf cyI cyF cyM mo la) (st.1 c i) st.2 c i) (c0 := 6) (i0 := 0) X.2.2.1 hP rfl (ci := 6) rfl rfl) rfl hl.1 (Nat.le_of_ble_eq_true rfl) dX6_run_62 (fun H locs hP hS => ?_)
      refine lv_iconst (v := 0) hx hb dX6_run_65 (by decide) ?_
      refine lv_istore (lv' := [(5, .int (0 : Int32)), (0, .ref (la 6 0)), (1, .int a1), (2, .ref (la 20 2)), (3, .int a3)]) hx hb dX6_run_66 hl (by decide) rfl (fun ls hl => ?_)
      exact BX6_run_68 X hr hlk N _ _ _ _ _  hf hP hS (lv_sub hl [1, 0] rfl)
    · replace hf := (if_neg c9).symm.trans hf
      refine lv_aload_n hx hb dX6_run_42 rfl (lv_at hl 0 rfl) ?_
      refine gC_Runner_handed X hP fl_X6_28 dX6_run_43 ?_
      refine lv_iload hx hb dX6_run_46 (lv_at hl 4 rfl) ?_
      refine lv_aload_n hx hb dX6_run_48 rfl (lv_at hl 2 rfl) ?_
      refine lv_iload hx hb dX6_run_49 (lv_at hl 4 rfl) ?_
      obtain ⟨hn12, hf⟩ := ck_of hf
      refine w_iald X hP (c0 := 20) (i0 := 2) (show 2 < 7 by decide) (n := 4) rfl hn12 dX6_run_51 ?_
      obtain ⟨hn13, hf⟩ := ck_of hf
      refine w_iast X hP hS (c0 := 20) (i0 := 5) (show 5 < 7 by decide) (n := 4) (fun _ => rfl) hn13 dX6_run_52 (fun H locs hP hS => ?_)
      obtain ⟨st14, hP, hf⟩ := nm_gen (P := fun z => HW D (VC mo) la (ECf cyI cyF cyM mo la) z H) hP hf
      obtain ⟨x15, ex⟩ : ∃ y : Int32, y = (a5 + (1 : Int32)) := ⟨_, rfl⟩
      replace hf := nm_of hf ex
      refine lv_iinc (v := x15) (lv' := [(5, .int x15), (0, .ref (la 6 0)), (1, .int a1), (2, .ref (la 20 2)), (3, .int a3)]) hx hb dX6_run_53 hl (k := 4) rfl (by rw [ex]; rfl) (by decide) rfl (fun ls hl => ?_)
      clear ex
      refine lv_goto (tgt := 36) hx hb dX6_run_56 (by decide) ?_
      exact ih _ _ _ _ _ _ _  hf hP hS (lv_sub hl [1, 2, 3, 4, 0] rfl)
def fX6_run (N mo : Nat) (a1 : Int32) (a3 : Int32) (a4 : Int32) (st : xSt) : Option (Int32 × xSt) := Option.bind (fX4_clear N mo st) (fun st1 => if ¬ (a4 = 0 ∨ a4 = 1) then none else nm (pI st1 6 0 9 a4) (fun st4 => nm (pI st4 6 0 10 (0 : Int32)) (fun st5 => nm (pI st5 6 0 11 (0 : Int32)) (fun st6 => nm (pI st6 6 0 14 a1) (fun st7 => nm (pI st7 6 0 15 (0 : Int32)) (fun st8 => fX6_run_b36 N mo N a1 a3 (0 : Int32) st8))))))
set_option maxHeartbeats 4000000 in
set_option maxRecDepth 100000 in
theorem TX6_run (l : Launch) {D : va_G} {la : Nat → Nat → Nat} {cyI cyF cyM : ClassId} {t0 mo N : Nat} {a1 : Int32} {a3 : Int32} {a4 : Int32} {st : xSt} {r : Int32} {st' : xSt} (hf : fX6_run N mo a1 a3 a4 st = some (r, st')) : MetC D cyI cyF cyM mo la t0 l yX6_run (Cond.code yX6_run cX6_run 7 (some .int) :: xALL) rm_X6_run [.ref (la 6 0), .int a1, .ref (la 20 2), .int a3, .int a4] (some (.int r)) st st' := by
  refine MetW.intro (own := RX6) (by decide) (Nat.le_of_ble_eq_true rfl) rfl ?_
  intro p e s m below meth c X hr hlk hP ls hl
  have hx := X.1.1
  have hb := X.1.2.1
  have hS : va_S (xA (VC mo) la) s.heap s.heap [] := va_S.rf
  unfold fX6_run at hf
  replace hl : lv_has ls 7 [(0, .ref (la 6 0)), (1, .int a1), (2, .ref (la 20 2)), (3, .int a3), (4, .int a4)] := hl
  refine lv_aload_n hx hb dX6_run_0 rfl (lv_at hl 0 rfl) ?_
  refine gC_Runner_outcome X hP fl_X6_12 dX6_run_1 ?_
  obtain ⟨st1, hr2, hf⟩ := bd_of hf
  refine w_V0 X (TX4_clear l hr2) hP hS rfl KX4_clear ml_X6_54 ⟨rfl, rfl⟩ ⟨by decide, by decide⟩ (x_recv (E := fun c i => (ECf cyI cyF cyM mo la) (st.1 c i) st.2 c i) (c0 := 5) (i0 := 0) X.2.2.1 hP rfl (ci := 5) rfl rfl) rfl hl.1 (Nat.le_of_ble_eq_true rfl) dX6_run_4 (fun H locs hP hS => ?_)
  refine lv_aload_n hx hb dX6_run_7 rfl (lv_at hl 0 rfl) ?_
  refine lv_iload hx hb dX6_run_8 (lv_at hl 4 rfl) ?_
  obtain ⟨hz3, hf⟩ := ck_of hf
  refine pC_Runner_usesMade X hP hS (Decidable.not_not.mp hz3) fl_X6_57 dX6_run_10 (fun H locs hP hS => ?_)
  obtain ⟨st4, hP, hf⟩ := nm_gen (P := fun z => HW D (VC mo) la (ECf cyI cyF cyM mo la) z H) hP hf
  refine lv_aload_n hx hb dX6_run_13 rfl (lv_at hl 0 rfl) ?_
  refine lv_iconst (v := 0) hx hb dX6_run_14 (by decide) ?_
  refine pC_Runner_depth X hP hS fl_X6_61 dX6_run_15 (fun H locs hP hS => ?_)
  obtain ⟨st5, hP, hf⟩ := nm_gen (P := fun z => HW D (VC mo) la (ECf cyI cyF cyM mo la) z H) hP hf
  refine lv_aload_n hx hb dX6_run_18 rfl (lv_at hl 0 rfl) ?_
  refine lv_iconst (v := 0) hx hb dX6_run_19 (by decide) ?_
  refine pC_Runner_steps X hP hS fl_X6_65 dX6_run_20 (fun H locs hP hS => ?_)
  obtain ⟨st6, hP, hf⟩ := nm_gen (P := fun z => HW D (VC mo) la (ECf cyI cyF cyM mo la) z H) hP hf
  refine lv_aload_n hx hb dX6_run_23 rfl (lv_at hl 0 rfl) ?_
  refine lv_iload_n hx hb dX6_run_24 rfl (lv_at hl 1 rfl) ?_
  refine pC_Runner_atAddress X hP hS fl_X6_68 dX6_run_25 (fun H locs hP hS => ?_)
  obtain ⟨st7, hP, hf⟩ := nm_gen (P := fun z => HW D (VC mo) la (ECf cyI cyF cyM mo la) z H) hP hf
  refine lv_aload_n hx hb dX6_run_28 rfl (lv_at hl 0 rfl) ?_
  refine lv_iconst (v := 0) hx hb dX6_run_29 (by decide) ?_
  refine pC_Runner_atOffset X hP hS fl_X6_71 dX6_run_30 (fun H locs hP hS => ?_)
  obtain ⟨st8, hP, hf⟩ := nm_gen (P := fun z => HW D (VC mo) la (ECf cyI cyF cyM mo la) z H) hP hf
  refine lv_iconst (v := 0) hx hb dX6_run_33 (by decide) ?_
  refine lv_istore (lv' := [(5, .int (0 : Int32)), (0, .ref (la 6 0)), (1, .int a1), (2, .ref (la 20 2)), (3, .int a3), (4, .int a4)]) hx hb dX6_run_34 hl (by decide) rfl (fun ls hl => ?_)
  exact BX6_run_36 X hr hlk N _ _ _ _ _ _ _  hf hP hS (lv_sub hl [1, 2, 3, 4, 0] rfl)
theorem KX6_run : xKv yX6_run cX6_run 7 (some .int) RX6 4 := ⟨cd_X6_run, im_X6_run, se_X6_run, in_X6, by decide +kernel⟩
abbrev rm_X8_call : Room := { frames := 6, cells := 0, slots := 0, locals := 141 }
def fX8_call (N mo : Nat) (a1 : Int32) (a2 : Int32) (st : xSt) : Option (Int32 × xSt) := bd (fX8_refusalOf N mo a1 a2 st) (fun v3 st1 => if v3 = (0 : Int32) then bd (fX6_run N mo a1 a2 (1 : Int32) st1) (fun v7 st5 => some (v7, st5)) else some (v3, st1))
set_option maxHeartbeats 4000000 in
set_option maxRecDepth 100000 in
theorem TX8_call (l : Launch) {D : va_G} {la : Nat → Nat → Nat} {cyI cyF cyM : ClassId} {t0 mo N : Nat} {a1 : Int32} {a2 : Int32} {st : xSt} {r : Int32} {st' : xSt} (hf : fX8_call N mo a1 a2 st = some (r, st')) : MetC D cyI cyF cyM mo la t0 l yX8_call (Cond.code yX8_call cX8_call 4 (some .int) :: xALL) rm_X8_call [.ref (la 8 0), .int a1, .int a2] (some (.int r)) st st' := by
  refine MetW.intro (own := RX8) (by decide) (Nat.le_of_ble_eq_true rfl) rfl ?_
  intro p e s m below meth c X hr hlk hP ls hl
  have hx := X.1.1
  have hb := X.1.2.1
  have hS : va_S (xA (VC mo) la) s.heap s.heap [] := va_S.rf
  unfold fX8_call at hf
  replace hl : lv_has ls 4 [(0, .ref (la 8 0)), (1, .int a1), (2, .int a2)] := hl
  refine lv_aload_n hx hb dX8_call_0 rfl (lv_at hl 0 rfl) ?_
  refine lv_iload_n hx hb dX8_call_1 rfl (lv_at hl 1 rfl) ?_
  refine lv_iload_n hx hb dX8_call_2 rfl (lv_at hl 2 rfl) ?_
  obtain ⟨v3, st1, hr2, hf⟩ := bd_2 hf
  refine w_V1 X (TX8_refusalOf l hr2) hP hS rfl KX8_refusalOf ml_X8_107 ⟨rfl, rfl⟩ ⟨by decide, by decide⟩ (x_recv (E := fun c i => (ECf cyI cyF cyM mo la) (st.1 c i) st.2 c i) (c0 := 8) (i0 := 0) X.2.2.1 hP rfl (ci := 8) rfl rfl) rfl hl.1 (Nat.le_of_ble_eq_true rfl) dX8_call_3 (fun H locs hP hS => ?_)
  refine lv_istore_n (lv' := [(3, .int v3), (0, .ref (la 8 0)), (1, .int a1), (2, .int a2)]) hx hb dX8_call_6 rfl hl (by decide) rfl (fun ls hl => ?_)
  refine lv_iload_n hx hb dX8_call_7 rfl (lv_at hl 0 rfl) ?_
  refine lv_if_eq (tgt := 15) hx hb dX8_call_8 (by decide) (fun c4 => ?_) (fun c4 => ?_)
  · replace hf := (if_pos c4).symm.trans hf
    refine lv_aload_n hx hb dX8_call_15 rfl (lv_at hl 1 rfl) ?_
    refine gC_MadeCalls_runner X hP fl_X8_51 dX8_call_16 ?_
    refine lv_iload_n hx hb dX8_call_19 rfl (lv_at hl 2 rfl) ?_
    refine lv_aload_n hx hb dX8_call_20 rfl (lv_at hl 1 rfl) ?_
    refine gC_MadeCalls_arguments X hP fl_X8_16 dX8_call_21 ?_
    refine lv_iload_n hx hb dX8_call_24 rfl (lv_at hl 3 rfl) ?_
    refine lv_iconst (v := 1) hx hb dX8_call_25 (by decide) ?_
    obtain ⟨v7, st5, hr6, hf⟩ := bd_2 hf
    refine w_V1 X (TX6_run l hr6) hP hS rfl KX6_run ml_X8_110 ⟨rfl, rfl⟩ ⟨by decide, by decide⟩ (x_recv (E := fun c i => (ECf cyI cyF cyM mo la) (st1.1 c i) st1.2 c i) (c0 := 6) (i0 := 0) X.2.2.1 hP rfl (ci := 6) rfl rfl) rfl hl.1 (Nat.le_of_ble_eq_true rfl) dX8_call_26 (fun H locs hP hS => ?_)
    obtain ⟨rfl, rfl⟩ := sp_2 hf
    exact w_iret X hr hlk hP hS dX8_call_29
  · replace hf := (if_neg c4).symm.trans hf
    refine lv_iload_n hx hb dX8_call_11 rfl (lv_at hl 0 rfl) ?_
    refine lv_goto (tgt := 29) hx hb dX8_call_12 (by decide) ?_
    obtain ⟨rfl, rfl⟩ := sp_2 hf
    exact w_iret X hr hlk hP hS dX8_call_29
theorem KX8_call : xKv yX8_call cX8_call 4 (some .int) RX8 2 := ⟨cd_X8_call, im_X8_call, se_X8_call, in_X8, by decide +kernel⟩
abbrev rm_X8_walk : Room := { frames := 6, cells := 0, slots := 0, locals := 141 }
def fX8_walk (N mo : Nat) (a1 : Int32) (a2 : Int32) (st : xSt) : Option (Int32 × xSt) := bd (fX8_refusalOf N mo a1 a2 st) (fun v3 st1 => if v3 = (0 : Int32) then bd (fX6_run N mo a1 a2 (0 : Int32) st1) (fun v7 st5 => some (v7, st5)) else some (v3, st1))
set_option maxHeartbeats 4000000 in
set_option maxRecDepth 100000 in
theorem TX8_walk (l : Launch) {D : va_G} {la : Nat → Nat → Nat} {cyI cyF cyM : ClassId} {t0 mo N : Nat} {a1 : Int32} {a2 : Int32} {st : xSt} {r : Int32} {st' : xSt} (hf : fX8_walk N mo a1 a2 st = some (r, st')) : MetC D cyI cyF cyM mo la t0 l yX8_walk (Cond.code yX8_walk cX8_walk 4 (some .int) :: xALL) rm_X8_walk [.ref (la 8 0), .int a1, .int a2] (some (.int r)) st st' := by
  refine MetW.intro (own := RX8) (by decide) (Nat.le_of_ble_eq_true rfl) rfl ?_
  intro p e s m below meth c X hr hlk hP ls hl
  have hx := X.1.1
  have hb := X.1.2.1
  have hS : va_S (xA (VC mo) la) s.heap s.heap [] := va_S.rf
  unfold fX8_walk at hf
  replace hl : lv_has ls 4 [(0, .ref (la 8 0)), (1, .int a1), (2, .int a2)] := hl
  refine lv_aload_n hx hb dX8_walk_0 rfl (lv_at hl 0 rfl) ?_
  refine lv_iload_n hx hb dX8_walk_1 rfl (lv_at hl 1 rfl) ?_
  refine lv_iload_n hx hb dX8_walk_2 rfl (lv_at hl 2 rfl) ?_
  obtain ⟨v3, st1, hr2, hf⟩ := bd_2 hf
  refine w_V1 X (TX8_refusalOf l hr2) hP hS rfl KX8_refusalOf ml_X8_107 ⟨rfl, rfl⟩ ⟨by decide, by decide⟩ (x_recv (E := fun c i => (ECf cyI cyF cyM mo la) (st.1 c i) st.2 c i) (c0 := 8) (i0 := 0) X.2.2.1 hP rfl (ci := 8) rfl rfl) rfl hl.1 (Nat.le_of_ble_eq_true rfl) dX8_walk_3 (fun H locs hP hS => ?_)
  refine lv_istore_n (lv' := [(3, .int v3), (0, .ref (la 8 0)), (1, .int a1), (2, .int a2)]) hx hb dX8_walk_6 rfl hl (by decide) rfl (fun ls hl => ?_)
  refine lv_iload_n hx hb dX8_walk_7 rfl (lv_at hl 0 rfl) ?_
  refine lv_if_eq (tgt := 15) hx hb dX8_walk_8 (by decide) (fun c4 => ?_) (fun c4 => ?_)
  · replace hf := (if_pos c4).symm.trans hf
    refine lv_aload_n hx hb dX8_walk_15 rfl (lv_at hl 1 rfl) ?_
    refine gC_MadeCalls_runner X hP fl_X8_51 dX8_walk_16 ?_
    refine lv_iload_n hx hb dX8_walk_19 rfl (lv_at hl 2 rfl) ?_
    refine lv_aload_n hx hb dX8_walk_20 rfl (lv_at hl 1 rfl) ?_
    refine gC_MadeCalls_arguments X hP fl_X8_16 dX8_walk_21 ?_
    refine lv_iload_n hx hb dX8_walk_24 rfl (lv_at hl 3 rfl) ?_
    refine lv_iconst (v := 0) hx hb dX8_walk_25 (by decide) ?_
    obtain ⟨v7, st5, hr6, hf⟩ := bd_2 hf
    refine w_V1 X (TX6_run l hr6) hP hS rfl KX6_run ml_X8_110 ⟨rfl, rfl⟩ ⟨by decide, by decide⟩ (x_recv (E := fun c i => (ECf cyI cyF cyM mo la) (st1.1 c i) st1.2 c i) (c0 := 6) (i0 := 0) X.2.2.1 hP rfl (ci := 6) rfl rfl) rfl hl.1 (Nat.le_of_ble_eq_true rfl) dX8_walk_26 (fun H locs hP hS => ?_)
    obtain ⟨rfl, rfl⟩ := sp_2 hf
    exact w_iret X hr hlk hP hS dX8_walk_29
  · replace hf := (if_neg c4).symm.trans hf
    refine lv_iload_n hx hb dX8_walk_11 rfl (lv_at hl 0 rfl) ?_
    refine lv_goto (tgt := 29) hx hb dX8_walk_12 (by decide) ?_
    obtain ⟨rfl, rfl⟩ := sp_2 hf
    exact w_iret X hr hlk hP hS dX8_walk_29
theorem KX8_walk : xKv yX8_walk cX8_walk 4 (some .int) RX8 2 := ⟨cd_X8_walk, im_X8_walk, se_X8_walk, in_X8, by decide +kernel⟩
abbrev rm_X8_result : Room := { frames := 0, cells := 0, slots := 0, locals := 0 }
def fX8_result (N mo : Nat) (st : xSt) : Option (Int32 × xSt) := some ((st.1 5 0 0), st)
set_option maxHeartbeats 4000000 in
set_option maxRecDepth 100000 in
theorem TX8_result (l : Launch) {D : va_G} {la : Nat → Nat → Nat} {cyI cyF cyM : ClassId} {t0 mo N : Nat} {st : xSt} {r : Int32} {st' : xSt} (hf : fX8_result N mo st = some (r, st')) : MetC D cyI cyF cyM mo la t0 l yX8_result (Cond.code yX8_result cX8_result 1 (some .int) :: xALL) rm_X8_result [.ref (la 8 0)] (some (.int r)) st st' := by
  refine MetW.intro (own := RX8) (by decide) (Nat.le_of_ble_eq_true rfl) rfl ?_
  intro p e s m below meth c X hr hlk hP ls hl
  have hx := X.1.1
  have hb := X.1.2.1
  have hS : va_S (xA (VC mo) la) s.heap s.heap [] := va_S.rf
  unfold fX8_result at hf
  replace hl : lv_has ls 1 [(0, .ref (la 8 0))] := hl
  refine lv_aload_n hx hb dX8_result_0 rfl (lv_at hl 0 rfl) ?_
  refine gC_MadeCalls_runner X hP fl_X8_51 dX8_result_1 ?_
  refine gC_Runner_outcome X hP fl_X8_114 dX8_result_4 ?_
  refine gC_Outcome_value X hP fl_X8_118 dX8_result_7 ?_
  obtain ⟨rfl, rfl⟩ := sp_2 hf
  exact w_iret X hr hlk hP hS dX8_result_10
theorem KX8_result : xKv yX8_result cX8_result 1 (some .int) RX8 0 := ⟨cd_X8_result, im_X8_result, se_X8_result, in_X8, by decide +kernel⟩
abbrev rm_X8_fault : Room := { frames := 0, cells := 0, slots := 0, locals := 0 }
def fX8_fault (N mo : Nat) (a1 : Int32) (st : xSt) : Option (Int32 × xSt) := if a1 = (0 : Int32) then some ((st.1 5 0 2), st) else if a1 = (1 : Int32) then some ((st.1 5 0 3), st) else if a1 = (2 : Int32) then some ((st.1 5 0 4), st) else some ((-2 : Int32), st)
set_option maxHeartbeats 4000000 in
set_option maxRecDepth 100000 in
theorem TX8_fault (l : Launch) {D : va_G} {la : Nat → Nat → Nat} {cyI cyF cyM : ClassId} {t0 mo N : Nat} {a1 : Int32} {st : xSt} {r : Int32} {st' : xSt} (hf : fX8_fault N mo a1 st = some (r, st')) : MetC D cyI cyF cyM mo la t0 l yX8_fault (Cond.code yX8_fault cX8_fault 3 (some .int) :: xALL) rm_X8_fault [.ref (la 8 0), .int a1] (some (.int r)) st st' := by
  refine MetW.intro (own := RX8) (by decide) (Nat.le_of_ble_eq_true rfl) rfl ?_
  intro p e s m below meth c X hr hlk hP ls hl
  have hx := X.1.1
  have hb := X.1.2.1
  have hS : va_S (xA (VC mo) la) s.heap s.heap [] := va_S.rf
  unfold fX8_fault at hf
  replace hl : lv_has ls 3 [(0, .ref (la 8 0)), (1, .int a1)] := hl
  refine lv_aload_n hx hb dX8_fault_0 rfl (lv_at hl 0 rfl) ?_
  refine gC_MadeCalls_runner X hP fl_X8_51 dX8_fault_1 ?_
  refine gC_Runner_outcome X hP fl_X8_114 dX8_fault_4 ?_
  refine lv_astore_n (lv' := [(2, .ref (la 5 0)), (0, .ref (la 8 0)), (1, .int a1)]) hx hb dX8_fault_7 rfl hl (by decide) rfl (fun ls hl => ?_)
  refine lv_iload_n hx hb dX8_fault_8 rfl (lv_at hl 2 rfl) ?_
  by_cases c1 : a1 = (0 : Int32)
  · replace hf := (if_pos c1).symm.trans hf
    refine w_stk (st1 := .int (0 : Int32) :: _) (by rw [c1]) ?_
    refine lv_tableIn (off := 27) (tgt := 36) hx hb dX8_fault_9 (by decide) (by decide) (by decide) (by decide) ?_
    refine lv_aload_n hx hb dX8_fault_36 rfl (lv_at hl 0 rfl) ?_
    refine gC_Outcome_address X hP fl_X8_123 dX8_fault_37 ?_
    obtain ⟨rfl, rfl⟩ := sp_2 hf
    exact w_iret X hr hlk hP hS dX8_fault_40
  replace hf := (if_neg c1).symm.trans hf
  by_cases c2 : a1 = (1 : Int32)
  · replace hf := (if_pos c2).symm.trans hf
    refine w_stk (st1 := .int (1 : Int32) :: _) (by rw [c2]) ?_
    refine lv_tableIn (off := 32) (tgt := 41) hx hb dX8_fault_9 (by decide) (by decide) (by decide) (by decide) ?_
    refine lv_aload_n hx hb dX8_fault_41 rfl (lv_at hl 0 rfl) ?_
    refine gC_Outcome_offset X hP fl_X8_126 dX8_fault_42 ?_
    obtain ⟨rfl, rfl⟩ := sp_2 hf
    exact w_iret X hr hlk hP hS dX8_fault_45
  replace hf := (if_neg c2).symm.trans hf
  by_cases c3 : a1 = (2 : Int32)
  · replace hf := (if_pos c3).symm.trans hf
    refine w_stk (st1 := .int (2 : Int32) :: _) (by rw [c3]) ?_
    refine lv_tableIn (off := 37) (tgt := 46) hx hb dX8_fault_9 (by decide) (by decide) (by decide) (by decide) ?_
    refine lv_aload_n hx hb dX8_fault_46 rfl (lv_at hl 0 rfl) ?_
    refine gC_Outcome_thrown X hP fl_X8_129 dX8_fault_47 ?_
    obtain ⟨rfl, rfl⟩ := sp_2 hf
    exact w_iret X hr hlk hP hS dX8_fault_50
  replace hf := (if_neg c3).symm.trans hf
  have gc1 := lv_neT c1 (show ((0 : Int32)).toInt = 0 by decide)
  have gc2 := lv_neT c2 (show ((1 : Int32)).toInt = 1 by decide)
  have gc3 := lv_neT c3 (show ((2 : Int32)).toInt = 2 by decide)
  refine lv_tableOut (tgt := 51) hx hb dX8_fault_9 (by omega) (by decide) ?_
  clear gc1 gc2 gc3
  refine lv_bipush (v := -2) hx hb dX8_fault_51 (by decide) ?_
  obtain ⟨rfl, rfl⟩ := sp_2 hf
  exact w_iret X hr hlk hP hS dX8_fault_53
theorem KX8_fault : xKv yX8_fault cX8_fault 3 (some .int) RX8 1 := ⟨cd_X8_fault, im_X8_fault, se_X8_fault, in_X8, by decide +kernel⟩
abbrev rm_X8_accelerate : Room := { frames := 1, cells := 0, slots := 0, locals := 20 }
def fX8_accelerate (N mo : Nat) (a1 : Int32) (a2 : Int32) (st : xSt) : Option (Int32 × xSt) := bd (fX8_isAddress N mo a1 st) (fun v3 st1 => if v3 = (0 : Int32) then some ((-2 : Int32), st1) else if a2 < (0 : Int32) then some ((-2 : Int32), st1) else if a2 ≤ (4 : Int32) then if (a1 / (4 : Int32)) < 0 ∨ 256 ≤ ((a1 / (4 : Int32))).toNatClampNeg then none else nm (st1.1 20 4 ((a1 / (4 : Int32))).toNatClampNeg) (fun x8 => if (a1 / (4 : Int32)) < 0 ∨ 256 ≤ ((a1 / (4 : Int32))).toNatClampNeg then none else nm (pI st1 20 4 ((a1 / (4 : Int32))).toNatClampNeg a2) (fun st10 => some (x8, st10))) else some ((-2 : Int32), st1))
set_option maxHeartbeats 4000000 in
set_option maxRecDepth 100000 in
theorem TX8_accelerate (l : Launch) {D : va_G} {la : Nat → Nat → Nat} {cyI cyF cyM : ClassId} {t0 mo N : Nat} {a1 : Int32} {a2 : Int32} {st : xSt} {r : Int32} {st' : xSt} (hf : fX8_accelerate N mo a1 a2 st = some (r, st')) : MetC D cyI cyF cyM mo la t0 l yX8_accelerate (Cond.code yX8_accelerate cX8_accelerate 4 (some .int) :: xALL) rm_X8_accelerate [.ref (la 8 0), .int a1, .int a2] (some (.int r)) st st' := by
  refine MetW.intro (own := RX8) (by decide) (Nat.le_of_ble_eq_true rfl) rfl ?_
  intro p e s m below meth c X hr hlk hP ls hl
  have hx := X.1.1
  have hb := X.1.2.1
  have hS : va_S (xA (VC mo) la) s.heap s.heap [] := va_S.rf
  unfold fX8_accelerate at hf
  replace hl : lv_has ls 4 [(0, .ref (la 8 0)), (1, .int a1), (2, .int a2)] := hl
  refine lv_iload_n hx hb dX8_accelerate_0 rfl (lv_at hl 1 rfl) ?_
  obtain ⟨v3, st1, hr2, hf⟩ := bd_2 hf
  refine w_S1 X (TX8_isAddress l hr2) hP hS rfl KX8_isAddress ml_X8_78 ⟨rfl, rfl⟩ ⟨by decide, by decide⟩ rfl hl.1 (Nat.le_of_ble_eq_true rfl) dX8_accelerate_1 (fun H locs hP hS => ?_)
  refine lv_if_eq (tgt := 16) hx hb dX8_accelerate_4 (by decide) (fun c4 => ?_) (fun c4 => ?_)
  · replace hf := (if_pos c4).symm.trans hf
    refine lv_bipush (v := -2) hx hb dX8_accelerate_16 (by decide) ?_
    obtain ⟨rfl, rfl⟩ := sp_2 hf
    exact w_iret X hr hlk hP hS dX8_accelerate_18
  · replace hf := (if_neg c4).symm.trans hf
    refine lv_iload_n hx hb dX8_accelerate_7 rfl (lv_at hl 2 rfl) ?_
    refine lv_if_lt (tgt := 16) hx hb dX8_accelerate_8 (by decide) (fun c5 => ?_) (fun c5 => ?_)
    · replace hf := (if_pos c5).symm.trans hf
      refine lv_bipush (v := -2) hx hb dX8_accelerate_16 (by decide) ?_
      obtain ⟨rfl, rfl⟩ := sp_2 hf
      exact w_iret X hr hlk hP hS dX8_accelerate_18
    · replace hf := (if_neg c5).symm.trans hf
      refine lv_iload_n hx hb dX8_accelerate_11 rfl (lv_at hl 2 rfl) ?_
      refine lv_iconst (v := 4) hx hb dX8_accelerate_12 (by decide) ?_
      refine lv_icmp_le (tgt := 19) hx hb dX8_accelerate_13 (by decide) (fun c6 => ?_) (fun c6 => ?_)
      · replace hf := (if_pos c6).symm.trans hf
        refine lv_aload_n hx hb dX8_accelerate_19 rfl (lv_at hl 0 rfl) ?_
        refine gC_MadeCalls_runner X hP fl_X8_51 dX8_accelerate_20 ?_
        refine gC_Runner_builtIns X hP fl_X8_132 dX8_accelerate_23 ?_
        refine lv_iload_n hx hb dX8_accelerate_26 rfl (lv_at hl 1 rfl) ?_
        refine lv_iconst (v := 4) hx hb dX8_accelerate_27 (by decide) ?_
        refine lv_idiv hx hb dX8_accelerate_28 (by decide) ?_
        obtain ⟨hn7, hf⟩ := ck_of hf
        refine w_iald X hP (c0 := 20) (i0 := 4) (show 4 < 7 by decide) (n := 256) rfl hn7 dX8_accelerate_29 ?_
        refine lv_topi (fun x8 ex => ?_)
        replace hf := nm_of hf ex
        clear ex
        refine lv_istore_n (lv' := [(3, .int x8), (0, .ref (la 8 0)), (1, .int a1), (2, .int a2)]) hx hb dX8_accelerate_30 rfl hl (by decide) rfl (fun ls hl => ?_)
        refine lv_aload_n hx hb dX8_accelerate_31 rfl (lv_at hl 1 rfl) ?_
        refine gC_MadeCalls_runner X hP fl_X8_51 dX8_accelerate_32 ?_
        refine gC_Runner_builtIns X hP fl_X8_132 dX8_accelerate_35 ?_
        refine lv_iload_n hx hb dX8_accelerate_38 rfl (lv_at hl 2 rfl) ?_
        refine lv_iconst (v := 4) hx hb dX8_accelerate_39 (by decide) ?_
        refine lv_idiv hx hb dX8_accelerate_40 (by decide) ?_
        refine lv_iload_n hx hb dX8_accelerate_41 rfl (lv_at hl 3 rfl) ?_
        obtain ⟨hn9, hf⟩ := ck_of hf
        refine w_iast X hP hS (c0 := 20) (i0 := 4) (show 4 < 7 by decide) (n := 256) (fun _ => rfl) hn9 dX8_accelerate_42 (fun H locs hP hS => ?_)
        obtain ⟨st10, hP, hf⟩ := nm_gen (P := fun z => HW D (VC mo) la (ECf cyI cyF cyM mo la) z H) hP hf
        refine lv_iload_n hx hb dX8_accelerate_43 rfl (lv_at hl 0 rfl) ?_
        obtain ⟨rfl, rfl⟩ := sp_2 hf
        exact w_iret X hr hlk hP hS dX8_accelerate_44
      · replace hf := (if_neg c6).symm.trans hf
        refine lv_bipush (v := -2) hx hb dX8_accelerate_16 (by decide) ?_
        obtain ⟨rfl, rfl⟩ := sp_2 hf
        exact w_iret X hr hlk hP hS dX8_accelerate_18
theorem KX8_accelerate : xKv yX8_accelerate cX8_accelerate 4 (some .int) RX8 2 := ⟨cd_X8_accelerate, im_X8_accelerate, se_X8_accelerate, in_X8, by decide +kernel⟩
abbrev rm_X7_addressOf : Room := { frames := 0, cells := 0, slots := 0, locals := 0 }
def fX7_addressOf_b12 (N mo : Nat) (st : xSt) : Option (Int32 × xSt) := some ((-1 : Int32), st)
set_option maxHeartbeats 4000000 in
set_option maxRecDepth 100000 in
theorem BX7_addressOf_12 {p : Program} {l : Launch} {e : Env} {s : State} {m : MethodId} {args : Array Value} {below : List Frame} {meth : Method} {c : Code} {D : va_G} {la : Nat → Nat → Nat} {cyI cyF cyM : ClassId} {t0 mo N : Nat} {r : Int32} {st' : xSt} (X : xCx D (VC mo) la cyI cyF cyM t0 p m c cX7_addressOf 2 s args RX7) (hr : meth.sig.returnType = (some .int)) (hlk : meth.locks = false) : ∀ (st : xSt) (H : Heap) (locs : List Loc) (ls : Array Slot), fX7_addressOf_b12 N mo st = some (r, st') → HW D (VC mo) la (ECf cyI cyF cyM mo la) st H → va_S (xA (VC mo) la) s.heap H locs → lv_has ls 2 [] → W p l e rm_X7_addressOf s m args below meth c H locs 0 0 (MQ below (xQc D (VC mo) la (ECf cyI cyF cyM mo la) (some (.int r)) st') args s 0 0 (xA (VC mo) la)) (F0 m 12 ls []) := by
  have hx := X.1.1
  have hb := X.1.2.1
  intro st H locs ls hf hP hS hl
  unfold fX7_addressOf_b12 at hf
  refine lv_iconst (v := -1) hx hb dX7_addressOf_12 (by decide) ?_
  refine lv_goto (tgt := 25) hx hb dX7_addressOf_13 (by decide) ?_
  obtain ⟨rfl, rfl⟩ := sp_2 hf
  exact w_iret X hr hlk hP hS dX7_addressOf_25
def fX7_addressOf (N mo : Nat) (a1 : Int32) (st : xSt) : Option (Int32 × xSt) := if a1 < (0 : Int32) then fX7_addressOf_b12 N mo st else if a1 < (st.1 7 0 3) then if a1 < 0 ∨ (mo + 1) ≤ (a1).toNatClampNeg then none else nm ((min (st.2 0 (a1).toNatClampNeg) mo)) (fun j4 => some ((st.1 3 j4 2), st)) else fX7_addressOf_b12 N mo st
set_option maxHeartbeats 4000000 in
set_option maxRecDepth 100000 in
theorem TX7_addressOf (l : Launch) {D : va_G} {la : Nat → Nat → Nat} {cyI cyF cyM : ClassId} {t0 mo N : Nat} {a1 : Int32} {st : xSt} {r : Int32} {st' : xSt} (hf : fX7_addressOf N mo a1 st = some (r, st')) : MetC D cyI cyF cyM mo la t0 l yX7_addressOf (Cond.code yX7_addressOf cX7_addressOf 2 (some .int) :: xALL) rm_X7_addressOf [.ref (la 7 0), .int a1] (some (.int r)) st st' := by
  refine MetW.intro (own := RX7) (by decide) (Nat.le_of_ble_eq_true rfl) rfl ?_
  intro p e s m below meth c X hr hlk hP ls hl
  have hx := X.1.1
  have hb := X.1.2.1
  have hS : va_S (xA (VC mo) la) s.heap s.heap [] := va_S.rf
  unfold fX7_addressOf at hf
  replace hl : lv_has ls 2 [(0, .ref (la 7 0)), (1, .int a1)] := hl
  refine lv_iload_n hx hb dX7_addressOf_0 rfl (lv_at hl 1 rfl) ?_
  refine lv_if_lt (tgt := 12) hx hb dX7_addressOf_1 (by decide) (fun c1 => ?_) (fun c1 => ?_)
  · replace hf := (if_pos c1).symm.trans hf
    exact BX7_addressOf_12 X hr hlk _ _ _ _  hf hP hS (lv_sub hl [] rfl)
  · replace hf := (if_neg c1).symm.trans hf
    refine lv_iload_n hx hb dX7_addressOf_4 rfl (lv_at hl 1 rfl) ?_
    refine lv_aload_n hx hb dX7_addressOf_5 rfl (lv_at hl 0 rfl) ?_
    refine gC_Shelf_size X hP fl_X7_26 dX7_addressOf_6 ?_
    refine lv_icmp_lt (tgt := 16) hx hb dX7_addressOf_9 (by decide) (fun c2 => ?_) (fun c2 => ?_)
    · replace hf := (if_pos c2).symm.trans hf
      refine lv_aload_n hx hb dX7_addressOf_16 rfl (lv_at hl 0 rfl) ?_
      refine gC_Shelf_all X hP fl_X7_21 dX7_addressOf_17 ?_
      refine lv_iload_n hx hb dX7_addressOf_20 rfl (lv_at hl 1 rfl) ?_
      obtain ⟨hn3, hf⟩ := ck_of hf
      refine gC_all X hP hn3 dX7_addressOf_21 ?_
      obtain ⟨j4, ej, hj4⟩ : ∃ y : Nat, y = (min (st.2 0 (a1).toNatClampNeg) mo) ∧ VC mo 3 y := ⟨_, rfl, (VC_m mo _)⟩
      refine w_top (v' := .ref (la 3 j4)) (by rw [ej]) ?_
      replace hf := nm_of hf ej
      clear ej
      refine gC_Made_address X hP hj4 fl_X7_37 dX7_addressOf_22 ?_
      obtain ⟨rfl, rfl⟩ := sp_2 hf
      exact w_iret X hr hlk hP hS dX7_addressOf_25
    · replace hf := (if_neg c2).symm.trans hf
      exact BX7_addressOf_12 X hr hlk _ _ _ _  hf hP hS (lv_sub hl [] rfl)
theorem KX7_addressOf : xKv yX7_addressOf cX7_addressOf 2 (some .int) RX7 1 := ⟨cd_X7_addressOf, im_X7_addressOf, se_X7_addressOf, in_X7, by decide +kernel⟩
abbrev rm_X8_kept : Room := { frames := 1, cells := 0, slots := 0, locals := 21 }
def fX8_kept (N mo : Nat) (a1 : Int32) (st : xSt) : Option (Int32 × xSt) := bd (fX7_addressOf N mo a1 st) (fun v3 st1 => some (v3, st1))
set_option maxHeartbeats 4000000 in
set_option maxRecDepth 100000 in
theorem TX8_kept (l : Launch) {D : va_G} {la : Nat → Nat → Nat} {cyI cyF cyM : ClassId} {t0 mo N : Nat} {a1 : Int32} {st : xSt} {r : Int32} {st' : xSt} (hf : fX8_kept N mo a1 st = some (r, st')) : MetC D cyI cyF cyM mo la t0 l yX8_kept (Cond.code yX8_kept cX8_kept 2 (some .int) :: xALL) rm_X8_kept [.ref (la 8 0), .int a1] (some (.int r)) st st' := by
  refine MetW.intro (own := RX8) (by decide) (Nat.le_of_ble_eq_true rfl) rfl ?_
  intro p e s m below meth c X hr hlk hP ls hl
  have hx := X.1.1
  have hb := X.1.2.1
  have hS : va_S (xA (VC mo) la) s.heap s.heap [] := va_S.rf
  unfold fX8_kept at hf
  replace hl : lv_has ls 2 [(0, .ref (la 8 0)), (1, .int a1)] := hl
  refine lv_aload_n hx hb dX8_kept_0 rfl (lv_at hl 0 rfl) ?_
  refine gC_MadeCalls_shelf X hP fl_X8_33 dX8_kept_1 ?_
  refine lv_iload_n hx hb dX8_kept_4 rfl (lv_at hl 1 rfl) ?_
  obtain ⟨v3, st1, hr2, hf⟩ := bd_2 hf
  refine w_V1 X (TX7_addressOf l hr2) hP hS rfl KX7_addressOf ml_X8_135 ⟨rfl, rfl⟩ ⟨by decide, by decide⟩ (x_recv (E := fun c i => (ECf cyI cyF cyM mo la) (st.1 c i) st.2 c i) (c0 := 7) (i0 := 0) X.2.2.1 hP rfl (ci := 7) rfl rfl) rfl hl.1 (Nat.le_of_ble_eq_true rfl) dX8_kept_5 (fun H locs hP hS => ?_)
  obtain ⟨rfl, rfl⟩ := sp_2 hf
  exact w_iret X hr hlk hP hS dX8_kept_8
theorem KX8_kept : xKv yX8_kept cX8_kept 2 (some .int) RX8 1 := ⟨cd_X8_kept, im_X8_kept, se_X8_kept, in_X8, by decide +kernel⟩
abbrev rm_X8_drop : Room := { frames := 2, cells := 0, slots := 0, locals := 46 }
def fX8_drop (N mo : Nat) (a1 : Int32) (st : xSt) : Option (Int32 × xSt) := if a1 < (0 : Int32) then some ((-2 : Int32), st) else if a1 < (16 : Int32) then bd (fX7_dropPage N mo a1 st) (fun v5 st3 => some (v5, st3)) else some ((-2 : Int32), st)
set_option maxHeartbeats 4000000 in
set_option maxRecDepth 100000 in
theorem TX8_drop (l : Launch) {D : va_G} {la : Nat → Nat → Nat} {cyI cyF cyM : ClassId} {t0 mo N : Nat} {a1 : Int32} {st : xSt} {r : Int32} {st' : xSt} (hf : fX8_drop N mo a1 st = some (r, st')) : MetC D cyI cyF cyM mo la t0 l yX8_drop (Cond.code yX8_drop cX8_drop 2 (some .int) :: xALL) rm_X8_drop [.ref (la 8 0), .int a1] (some (.int r)) st st' := by
  refine MetW.intro (own := RX8) (by decide) (Nat.le_of_ble_eq_true rfl) rfl ?_
  intro p e s m below meth c X hr hlk hP ls hl
  have hx := X.1.1
  have hb := X.1.2.1
  have hS : va_S (xA (VC mo) la) s.heap s.heap [] := va_S.rf
  unfold fX8_drop at hf
  replace hl : lv_has ls 2 [(0, .ref (la 8 0)), (1, .int a1)] := hl
  refine lv_iload_n hx hb dX8_drop_0 rfl (lv_at hl 1 rfl) ?_
  refine lv_if_lt (tgt := 10) hx hb dX8_drop_1 (by decide) (fun c1 => ?_) (fun c1 => ?_)
  · replace hf := (if_pos c1).symm.trans hf
    refine lv_bipush (v := -2) hx hb dX8_drop_10 (by decide) ?_
    obtain ⟨rfl, rfl⟩ := sp_2 hf
    exact w_iret X hr hlk hP hS dX8_drop_12
  · replace hf := (if_neg c1).symm.trans hf
    refine lv_iload_n hx hb dX8_drop_4 rfl (lv_at hl 1 rfl) ?_
    refine lv_bipush (v := 16) hx hb dX8_drop_5 (by decide) ?_
    refine lv_icmp_lt (tgt := 13) hx hb dX8_drop_7 (by decide) (fun c2 => ?_) (fun c2 => ?_)
    · replace hf := (if_pos c2).symm.trans hf
      refine lv_aload_n hx hb dX8_drop_13 rfl (lv_at hl 0 rfl) ?_
      refine gC_MadeCalls_shelf X hP fl_X8_33 dX8_drop_14 ?_
      refine lv_iload_n hx hb dX8_drop_17 rfl (lv_at hl 1 rfl) ?_
      obtain ⟨v5, st3, hr4, hf⟩ := bd_2 hf
      refine w_V1 X (TX7_dropPage l hr4) hP hS rfl KX7_dropPage ml_X8_139 ⟨rfl, rfl⟩ ⟨by decide, by decide⟩ (x_recv (E := fun c i => (ECf cyI cyF cyM mo la) (st.1 c i) st.2 c i) (c0 := 7) (i0 := 0) X.2.2.1 hP rfl (ci := 7) rfl rfl) rfl hl.1 (Nat.le_of_ble_eq_true rfl) dX8_drop_18 (fun H locs hP hS => ?_)
      obtain ⟨rfl, rfl⟩ := sp_2 hf
      exact w_iret X hr hlk hP hS dX8_drop_21
    · replace hf := (if_neg c2).symm.trans hf
      refine lv_bipush (v := -2) hx hb dX8_drop_10 (by decide) ?_
      obtain ⟨rfl, rfl⟩ := sp_2 hf
      exact w_iret X hr hlk hP hS dX8_drop_12
theorem KX8_drop : xKv yX8_drop cX8_drop 2 (some .int) RX8 1 := ⟨cd_X8_drop, im_X8_drop, se_X8_drop, in_X8, by decide +kernel⟩
abbrev rm_X8_count : Room := { frames := 0, cells := 0, slots := 0, locals := 0 }
def fX8_count_b10 (N mo : Nat) (st : xSt) : Option (Int32 × xSt) := some ((-2 : Int32), st)
set_option maxHeartbeats 4000000 in
set_option maxRecDepth 100000 in
theorem BX8_count_10 {p : Program} {l : Launch} {e : Env} {s : State} {m : MethodId} {args : Array Value} {below : List Frame} {meth : Method} {c : Code} {D : va_G} {la : Nat → Nat → Nat} {cyI cyF cyM : ClassId} {t0 mo N : Nat} {r : Int32} {st' : xSt} (X : xCx D (VC mo) la cyI cyF cyM t0 p m c cX8_count 2 s args RX8) (hr : meth.sig.returnType = (some .int)) (hlk : meth.locks = false) : ∀ (st : xSt) (H : Heap) (locs : List Loc) (ls : Array Slot), fX8_count_b10 N mo st = some (r, st') → HW D (VC mo) la (ECf cyI cyF cyM mo la) st H → va_S (xA (VC mo) la) s.heap H locs → lv_has ls 2 [] → W p l e rm_X8_count s m args below meth c H locs 0 0 (MQ below (xQc D (VC mo) la (ECf cyI cyF cyM mo la) (some (.int r)) st') args s 0 0 (xA (VC mo) la)) (F0 m 10 ls []) := by
  have hx := X.1.1
  have hb := X.1.2.1
  intro st H locs ls hf hP hS hl
  unfold fX8_count_b10 at hf
  refine lv_bipush (v := -2) hx hb dX8_count_10 (by decide) ?_
  refine lv_goto (tgt := 21) hx hb dX8_count_12 (by decide) ?_
  obtain ⟨rfl, rfl⟩ := sp_2 hf
  exact w_iret X hr hlk hP hS dX8_count_21
def fX8_count (N mo : Nat) (a1 : Int32) (st : xSt) : Option (Int32 × xSt) := if a1 < (0 : Int32) then fX8_count_b10 N mo st else if a1 < (8 : Int32) then if a1 < 0 ∨ 8 ≤ (a1).toNatClampNeg then none else some ((st.1 20 0 (a1).toNatClampNeg), st) else fX8_count_b10 N mo st
set_option maxHeartbeats 4000000 in
set_option maxRecDepth 100000 in
theorem TX8_count (l : Launch) {D : va_G} {la : Nat → Nat → Nat} {cyI cyF cyM : ClassId} {t0 mo N : Nat} {a1 : Int32} {st : xSt} {r : Int32} {st' : xSt} (hf : fX8_count N mo a1 st = some (r, st')) : MetC D cyI cyF cyM mo la t0 l yX8_count (Cond.code yX8_count cX8_count 2 (some .int) :: xALL) rm_X8_count [.ref (la 8 0), .int a1] (some (.int r)) st st' := by
  refine MetW.intro (own := RX8) (by decide) (Nat.le_of_ble_eq_true rfl) rfl ?_
  intro p e s m below meth c X hr hlk hP ls hl
  have hx := X.1.1
  have hb := X.1.2.1
  have hS : va_S (xA (VC mo) la) s.heap s.heap [] := va_S.rf
  unfold fX8_count at hf
  replace hl : lv_has ls 2 [(0, .ref (la 8 0)), (1, .int a1)] := hl
  refine lv_iload_n hx hb dX8_count_0 rfl (lv_at hl 1 rfl) ?_
  refine lv_if_lt (tgt := 10) hx hb dX8_count_1 (by decide) (fun c1 => ?_) (fun c1 => ?_)
  · replace hf := (if_pos c1).symm.trans hf
    exact BX8_count_10 X hr hlk _ _ _ _  hf hP hS (lv_sub hl [] rfl)
  · replace hf := (if_neg c1).symm.trans hf
    refine lv_iload_n hx hb dX8_count_4 rfl (lv_at hl 1 rfl) ?_
    refine lv_bipush (v := 8) hx hb dX8_count_5 (by decide) ?_
    refine lv_icmp_lt (tgt := 15) hx hb dX8_count_7 (by decide) (fun c2 => ?_) (fun c2 => ?_)
    · replace hf := (if_pos c2).symm.trans hf
      refine lv_aload_n hx hb dX8_count_15 rfl (lv_at hl 0 rfl) ?_
      refine gC_MadeCalls_counts X hP fl_X8_9 dX8_count_16 ?_
      refine lv_iload_n hx hb dX8_count_19 rfl (lv_at hl 1 rfl) ?_
      obtain ⟨hn3, hf⟩ := ck_of hf
      refine w_iald X hP (c0 := 20) (i0 := 0) (show 0 < 7 by decide) (n := 8) rfl hn3 dX8_count_20 ?_
      obtain ⟨rfl, rfl⟩ := sp_2 hf
      exact w_iret X hr hlk hP hS dX8_count_21
    · replace hf := (if_neg c2).symm.trans hf
      exact BX8_count_10 X hr hlk _ _ _ _  hf hP hS (lv_sub hl [] rfl)
theorem KX8_count : xKv yX8_count cX8_count 2 (some .int) RX8 1 := ⟨cd_X8_count, im_X8_count, se_X8_count, in_X8, by decide +kernel⟩
