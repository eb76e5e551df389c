abbrev rm_X0_formBehind : Room := { frames := 0, cells := 0, slots := 0, locals := 0 }
def fX0_formBehind (N mo : Nat) (a0 : Int32) (a1 : Int32) (st : xSt) : Option (Int32 × xSt) := if (a0 &&& (15 : Int32)) = (4 : Int32) then some (((4369 : Int32) >>> (((4 : Int32) * ((4 : Int32) - a1)) &&& 31)), st) else some ((a0 >>> ((4 : Int32) &&& 31)), st)
set_option maxHeartbeats 4000000 in
set_option maxRecDepth 100000 in
theorem TX0_formBehind (l : Launch) {D : va_G} {la : Nat → Nat → Nat} {cyI cyF cyM : ClassId} {t0 mo N : Nat} {a0 : Int32} {a1 : Int32} {st : xSt} {r : Int32} {st' : xSt} (hf : fX0_formBehind N mo a0 a1 st = some (r, st')) : MetC D cyI cyF cyM mo la t0 l yX0_formBehind (Cond.code yX0_formBehind cX0_formBehind 2 (some .int) :: xALL) rm_X0_formBehind [.int a0, .int a1] (some (.int r)) st st' := by
  refine MetW.intro (own := RX0) (by decide) (Nat.le_of_ble_eq_true rfl) rfl ?_
  intro p e s m below meth c X hr hlk hP ls hl
  have hx := X.1.1
  have hb := X.1.2.1
  have hS : va_S (xA (VC mo) la) s.heap s.heap [] := va_S.rf
  unfold fX0_formBehind at hf
  replace hl : lv_has ls 2 [(0, .int a0), (1, .int a1)] := hl
  refine lv_iload_n hx hb dX0_formBehind_0 rfl (lv_at hl 0 rfl) ?_
  refine lv_bipush (v := 15) hx hb dX0_formBehind_1 (by decide) ?_
  refine lv_iand hx hb dX0_formBehind_3 ?_
  refine lv_iconst (v := 4) hx hb dX0_formBehind_4 (by decide) ?_
  refine lv_icmp_ne (tgt := 20) hx hb dX0_formBehind_5 (by decide) (fun c1 => ?_) (fun c1 => ?_)
  · replace hf := (if_neg c1).symm.trans hf
    refine lv_iload_n hx hb dX0_formBehind_20 rfl (lv_at hl 0 rfl) ?_
    refine lv_iconst (v := 4) hx hb dX0_formBehind_21 (by decide) ?_
    refine lv_ishr hx hb dX0_formBehind_22 ?_
    obtain ⟨rfl, rfl⟩ := sp_2 hf
    exact w_iret X hr hlk hP hS dX0_formBehind_23
  · replace hf := (if_pos c1).symm.trans hf
    refine lv_sipush (v := 4369) hx hb dX0_formBehind_8 (by decide) ?_
    refine lv_iconst (v := 4) hx hb dX0_formBehind_11 (by decide) ?_
    refine lv_iconst (v := 4) hx hb dX0_formBehind_12 (by decide) ?_
    refine lv_iload_n hx hb dX0_formBehind_13 rfl (lv_at hl 1 rfl) ?_
    refine lv_isub hx hb dX0_formBehind_14 ?_
    refine lv_imul hx hb dX0_formBehind_15 ?_
    refine lv_ishr hx hb dX0_formBehind_16 ?_
    refine lv_goto (tgt := 23) hx hb dX0_formBehind_17 (by decide) ?_
    obtain ⟨rfl, rfl⟩ := sp_2 hf
    exact w_iret X hr hlk hP hS dX0_formBehind_23
theorem KX0_formBehind : xKs yX0_formBehind cX0_formBehind 2 (some .int) RX0 2 := ⟨cd_X0_formBehind, ss_X0_formBehind, in_X0, by decide +kernel⟩
abbrev rm_X3_read : Room := { frames := 2, cells := 0, slots := 0, locals := 43 }
def fX3_read_b121 (N mo : Nat) (q3 : Nat) (a4 : Int32) (a6 : Int32) (st : xSt) : Option (Int32 × xSt) := if (a4 + (8 : Int32)) < 0 ∨ (rwN q3) ≤ ((a4 + (8 : Int32))).toNatClampNeg then none else nm (pI st (rwC q3) (rwI mo q3) ((a4 + (8 : Int32))).toNatClampNeg a6) (fun st36 => some ((0 : Int32), st36))
set_option maxHeartbeats 4000000 in
set_option maxRecDepth 100000 in
theorem BX3_read_121 {p : Program} {l : Launch} {e : Env} {s : State} {m : MethodId} {args : Array Value} {below : List Frame} {meth : Method} {c : Code} {D : va_G} {la : Nat → Nat → Nat} {cyI cyF cyM : ClassId} {t0 mo N : Nat} {r : Int32} {st' : xSt} (X : xCx D (VC mo) la cyI cyF cyM t0 p m c cX3_read 8 s args RX3) (hr : meth.sig.returnType = (some .int)) (hlk : meth.locks = false) : ∀ (q3 : Nat) (a4 : Int32) (a6 : Int32) (st : xSt) (H : Heap) (locs : List Loc) (ls : Array Slot), fX3_read_b121 N mo q3 a4 a6 st = some (r, st') → HW D (VC mo) la (ECf cyI cyF cyM mo la) st H → va_S (xA (VC mo) la) s.heap H locs → lv_has ls 8 [(3, .ref (la (rwC q3) (rwI mo q3))), (4, .int a4), (6, .int a6)] → W p l e rm_X3_read s m args below meth c H locs 0 0 (MQ below (xQc D (VC mo) la (ECf cyI cyF cyM mo la) (some (.int r)) st') args s 0 0 (xA (VC mo) la)) (F0 m 121 ls []) := by
  have hx := X.1.1
  have hb := X.1.2.1
  intro q3 a4 a6 st H locs ls hf hP hS hl
  unfold fX3_read_b121 at hf
  refine lv_aload_n hx hb dX3_read_121 rfl (lv_at hl 0 rfl) ?_
  refine lv_iload hx hb dX3_read_122 (lv_at hl 1 rfl) ?_
  refine lv_bipush (v := 8) hx hb dX3_read_124 (by decide) ?_
  refine lv_iadd hx hb dX3_read_126 ?_
  refine lv_iload hx hb dX3_read_127 (lv_at hl 2 rfl) ?_
  obtain ⟨hn35, hf⟩ := ck_of hf
  refine w_iast X hP hS (c0 := (rwC q3)) (i0 := (rwI mo q3)) (VC_rw mo _) (n := (rwN q3)) (fun g => ECf_rw g _ _) hn35 dX3_read_129 (fun H locs hP hS => ?_)
  obtain ⟨st36, hP, hf⟩ := nm_gen (P := fun z => HW D (VC mo) la (ECf cyI cyF cyM mo la) z H) hP hf
  refine lv_iconst (v := 0) hx hb dX3_read_130 (by decide) ?_
  obtain ⟨rfl, rfl⟩ := sp_2 hf
  exact w_iret X hr hlk hP hS dX3_read_131
def fX3_read_b48 (N mo : Nat) : Nat → Int32 → Int32 → Nat → Int32 → Int32 → Int32 → xSt → Option (Int32 × xSt)
  | 0, _, _, _, _, _, _, _ => none
  | n + 1, a1, a2, q3, a4, a5, a6, st => if a5 = (0 : Int32) then fX3_read_b121 N mo q3 a4 a6 st else if (8 : Int32) ≤ a6 then fX3_read_b121 N mo q3 a4 a6 st else bd (fX8_isPlace N mo (a1 + a6) st) (fun v21 st19 => if v21 = (0 : Int32) then some ((1 : Int32), st19) else if (a1 + a6) < 0 ∨ 1024 ≤ ((a1 + a6)).toNatClampNeg then none else nm (st19.1 20 3 ((a1 + a6)).toNatClampNeg) (fun x24 => bd (fX0_fits N mo a5 x24 a2 st19) (fun v27 st25 => if v27 = (0 : Int32) then some ((7 : Int32), st25) else if (a4 + a6) < 0 ∨ (rwN q3) ≤ ((a4 + a6)).toNatClampNeg then none else nm (pI st25 (rwC q3) (rwI mo q3) ((a4 + a6)).toNatClampNeg x24) (fun st30 => bd (fX0_formBehind N mo a5 x24 st30) (fun v33 st31 => nm (a6 + (1 : Int32)) (fun x34 => fX3_read_b48 N mo n a1 a2 q3 a4 v33 x34 st31))))))
set_option maxHeartbeats 4000000 in
set_option maxRecDepth 100000 in
theorem BX3_read_48 {p : Program} {l : Launch} {e : Env} {s : State} {m : MethodId} {args : Array Value} {below : List Frame} {meth : Method} {c : Code} {D : va_G} {la : Nat → Nat → Nat} {cyI cyF cyM : ClassId} {t0 mo N : Nat} {r : Int32} {st' : xSt} (X : xCx D (VC mo) la cyI cyF cyM t0 p m c cX3_read 8 s args RX3) (hr : meth.sig.returnType = (some .int)) (hlk : meth.locks = false) : ∀ n : Nat, ∀ (a1 : Int32) (a2 : Int32) (q3 : Nat) (a4 : Int32) (a5 : Int32) (a6 : Int32) (st : xSt) (H : Heap) (locs : List Loc) (ls : Array Slot), fX3_read_b48 N mo n a1 a2 q3 a4 a5 a6 st = some (r, st') → HW D (VC mo) la (ECf cyI cyF cyM mo la) st H → va_S (xA (VC mo) la) s.heap H locs → lv_has ls 8 [(0, .ref (la 4 0)), (1, .int a1), (2, .int a2), (3, .ref (la (rwC q3) (rwI mo q3))), (4, .int a4), (5, .int a5), (6, .int a6)] → W p l e rm_X3_read s m args below meth c H locs 0 0 (MQ below (xQc D (VC mo) la (ECf cyI cyF cyM mo la) (some (.int r)) st') args s 0 0 (xA (VC mo) la)) (F0 m 48 ls []) := by
  have hx := X.1.1
  have hb := X.1.2.1
  intro n
  induction n with
  | zero =>
    intro a1 a2 q3 a4 a5 a6 st H locs ls hf hP hS hl
    rw [fX3_read_b48] at hf
    cases hf
  | succ n ih =>
    intro a1 a2 q3 a4 a5 a6 st H locs ls hf hP hS hl
    rw [fX3_read_b48] at hf
    refine lv_iload hx hb dX3_read_48 (lv_at hl 5 rfl) ?_
    refine lv_if_eq (tgt := 121) hx hb dX3_read_50 (by decide) (fun c17 => ?_) (fun c17 => ?_)
    · replace hf := (if_pos c17).symm.trans hf
      exact BX3_read_121 X hr hlk _ _ _ _ _ _ _  hf hP hS (lv_sub hl [3, 4, 6] rfl)
    · replace hf := (if_neg c17).symm.trans hf
      refine lv_iload hx hb dX3_read_53 (lv_at hl 6 rfl) ?_
      refine lv_bipush (v := 8) hx hb dX3_read_55 (by decide) ?_
      refine lv_icmp_ge (tgt := 121) hx hb dX3_read_57 (by decide) (fun c18 => ?_) (fun c18 => ?_)
      · replace hf := (if_pos c18).symm.trans hf
        exact BX3_read_121 X hr hlk _ _ _ _ _ _ _  hf hP hS (lv_sub hl [3, 4, 6] rfl)
      · replace hf := (if_neg c18).symm.trans hf
        refine lv_iload_n hx hb dX3_read_60 rfl (lv_at hl 1 rfl) ?_
        refine lv_iload hx hb dX3_read_61 (lv_at hl 6 rfl) ?_
        refine lv_iadd hx hb dX3_read_63 ?_
        obtain ⟨v21, st19, hr20, hf⟩ := bd_2 hf
        refine w_N1 X (TX8_isPlace l hr20) hP hS rfl KX8_isPlace X.2.2.2.1 ⟨rfl, rfl⟩ ⟨by decide, by decide⟩ rfl hl.1 (Nat.le_of_ble_eq_true rfl) dX3_read_64 (fun H locs hP hS => ?_)
        refine lv_if_ne (tgt := 72) hx hb dX3_read_67 (by decide) (fun c22 => ?_) (fun c22 => ?_)
        · replace hf := (if_neg c22).symm.trans hf
          refine lv_aload_n hx hb dX3_read_72 rfl (lv_at hl 0 rfl) ?_
          refine gC_Memory_bytes X hP fl_X3_9 dX3_read_73 ?_
          refine lv_iload_n hx hb dX3_read_76 rfl (lv_at hl 1 rfl) ?_
          refine lv_iload hx hb dX3_read_77 (lv_at hl 6 rfl) ?_
          refine lv_iadd hx hb dX3_read_79 ?_
          obtain ⟨hn23, hf⟩ := ck_of hf
          refine w_iald X hP (c0 := 20) (i0 := 3) (show 3 < 7 by decide) (n := 1024) rfl hn23 dX3_read_80 ?_
          refine lv_topi (fun x24 ex => ?_)
          replace hf := nm_of hf ex
          clear ex
          refine lv_istore (lv' := [(7, .int x24), (0, .ref (la 4 0)), (1, .int a1), (2, .int a2), (3, .ref (la (rwC q3) (rwI mo q3))), (4, .int a4), (5, .int a5), (6, .int a6)]) hx hb dX3_read_81 hl (by decide) rfl (fun ls hl => ?_)
          refine lv_iload hx hb dX3_read_83 (lv_at hl 6 rfl) ?_
          refine lv_iload hx hb dX3_read_85 (lv_at hl 0 rfl) ?_
          refine lv_iload_n hx hb dX3_read_87 rfl (lv_at hl 3 rfl) ?_
          obtain ⟨v27, st25, hr26, hf⟩ := bd_2 hf
          refine w_S1 X (TX0_fits l hr26) hP hS rfl KX0_fits ml_X3_39 ⟨rfl, rfl⟩ ⟨by decide, by decide⟩ rfl hl.1 (Nat.le_of_ble_eq_true rfl) dX3_read_88 (fun H locs hP hS => ?_)
          refine lv_if_ne (tgt := 97) hx hb dX3_read_91 (by decide) (fun c28 => ?_) (fun c28 => ?_)
          · replace hf := (if_neg c28).symm.trans hf
            refine lv_aload_n hx hb dX3_read_97 rfl (lv_at hl 4 rfl) ?_
            refine lv_iload hx hb dX3_read_98 (lv_at hl 5 rfl) ?_
            refine lv_iload hx hb dX3_read_100 (lv_at hl 7 rfl) ?_
            refine lv_iadd hx hb dX3_read_102 ?_
            refine lv_iload hx hb dX3_read_103 (lv_at hl 0 rfl) ?_
            obtain ⟨hn29, hf⟩ := ck_of hf
            refine w_iast X hP hS (c0 := (rwC q3)) (i0 := (rwI mo q3)) (VC_rw mo _) (n := (rwN q3)) (fun g => ECf_rw g _ _) hn29 dX3_read_105 (fun H locs hP hS => ?_)
            obtain ⟨st30, hP, hf⟩ := nm_gen (P := fun z => HW D (VC mo) la (ECf cyI cyF cyM mo la) z H) hP hf
            refine lv_iload hx hb dX3_read_106 (lv_at hl 6 rfl) ?_
            refine lv_iload hx hb dX3_read_108 (lv_at hl 0 rfl) ?_
            obtain ⟨v33, st31, hr32, hf⟩ := bd_2 hf
            refine w_S1 X (TX0_formBehind l hr32) hP hS rfl KX0_formBehind ml_X3_43 ⟨rfl, rfl⟩ ⟨by decide, by decide⟩ rfl hl.1 (Nat.le_of_ble_eq_true rfl) dX3_read_110 (fun H locs hP hS => ?_)
            refine lv_istore (lv' := [(5, .int v33), (7, .int x24), (0, .ref (la 4 0)), (1, .int a1), (2, .int a2), (3, .ref (la (rwC q3) (rwI mo q3))), (4, .int a4), (6, .int a6)]) hx hb dX3_read_113 hl (by decide) rfl (fun ls hl => ?_)
            obtain ⟨x34, ex⟩ : ∃ y : Int32, y = (a6 + (1 : Int32)) := ⟨_, rfl⟩
            replace hf := nm_of hf ex
            refine lv_iinc (v := x34) (lv' := [(6, .int x34), (5, .int v33), (7, .int x24), (0, .ref (la 4 0)), (1, .int a1), (2, .int a2), (3, .ref (la (rwC q3) (rwI mo q3))), (4, .int a4)]) hx hb dX3_read_115 hl (k := 7) rfl (by rw [ex]; rfl) (by decide) rfl (fun ls hl => ?_)
            clear ex
            refine lv_goto (tgt := 48) hx hb dX3_read_118 (by decide) ?_
            exact ih _ _ _ _ _ _ _ _ _ _  hf hP hS (lv_sub hl [3, 4, 5, 6, 7, 1, 0] rfl)
          · replace hf := (if_pos c28).symm.trans hf
            refine lv_bipush (v := 7) hx hb dX3_read_94 (by decide) ?_
            obtain ⟨rfl, rfl⟩ := sp_2 hf
            exact w_iret X hr hlk hP hS dX3_read_96
        · replace hf := (if_pos c22).symm.trans hf
          refine lv_iconst (v := 1) hx hb dX3_read_70 (by decide) ?_
          obtain ⟨rfl, rfl⟩ := sp_2 hf
          exact w_iret X hr hlk hP hS dX3_read_71
def fX3_read (N mo : Nat) (a1 : Int32) (a2 : Int32) (q3 : Nat) (a4 : Int32) (st : xSt) : Option (Int32 × xSt) := bd (fX8_isPlace N mo a1 st) (fun v3 st1 => if v3 = (0 : Int32) then some ((1 : Int32), st1) else if a1 < 0 ∨ 1024 ≤ (a1).toNatClampNeg then none else bd (fX0_isCode N mo (st1.1 20 3 (a1).toNatClampNeg) st1) (fun v8 st6 => if v8 = (0 : Int32) then some ((7 : Int32), st6) else if a1 < 0 ∨ 1024 ≤ (a1).toNatClampNeg then none else if a4 < 0 ∨ (rwN q3) ≤ (a4).toNatClampNeg then none else nm (pI st6 (rwC q3) (rwI mo q3) (a4).toNatClampNeg (st6.1 20 3 (a1).toNatClampNeg)) (fun st12 => if a1 < 0 ∨ 1024 ≤ (a1).toNatClampNeg then none else bd (fX0_formOf N mo (st12.1 20 3 (a1).toNatClampNeg) st12) (fun v16 st14 => fX3_read_b48 N mo N a1 a2 q3 a4 v16 (1 : Int32) st14))))
set_option maxHeartbeats 4000000 in
set_option maxRecDepth 100000 in
theorem TX3_read (l : Launch) {D : va_G} {la : Nat → Nat → Nat} {cyI cyF cyM : ClassId} {t0 mo N : Nat} {a1 : Int32} {a2 : Int32} {q3 : Nat} {a4 : Int32} {st : xSt} {r : Int32} {st' : xSt} (hf : fX3_read N mo a1 a2 q3 a4 st = some (r, st')) : MetC D cyI cyF cyM mo la t0 l yX3_read (Cond.code yX3_read cX3_read 8 (some .int) :: xALL) rm_X3_read [.ref (la 4 0), .int a1, .int a2, .ref (la (rwC q3) (rwI mo q3)), .int a4] (some (.int r)) st st' := by
  refine MetW.intro (own := RX3) (by decide) (Nat.le_of_ble_eq_true rfl) rfl ?_
  intro p e s m below meth c X hr hlk hP ls hl
  have hx := X.1.1
  have hb := X.1.2.1
  have hS : va_S (xA (VC mo) la) s.heap s.heap [] := va_S.rf
  unfold fX3_read at hf
  replace hl : lv_has ls 8 [(0, .ref (la 4 0)), (1, .int a1), (2, .int a2), (3, .ref (la (rwC q3) (rwI mo q3))), (4, .int a4)] := hl
  refine lv_iload_n hx hb dX3_read_0 rfl (lv_at hl 1 rfl) ?_
  obtain ⟨v3, st1, hr2, hf⟩ := bd_2 hf
  refine w_N1 X (TX8_isPlace l hr2) hP hS rfl KX8_isPlace X.2.2.2.1 ⟨rfl, rfl⟩ ⟨by decide, by decide⟩ rfl hl.1 (Nat.le_of_ble_eq_true rfl) dX3_read_1 (fun H locs hP hS => ?_)
  refine lv_if_ne (tgt := 9) hx hb dX3_read_4 (by decide) (fun c4 => ?_) (fun c4 => ?_)
  · replace hf := (if_neg c4).symm.trans hf
    refine lv_aload_n hx hb dX3_read_9 rfl (lv_at hl 0 rfl) ?_
    refine gC_Memory_bytes X hP fl_X3_9 dX3_read_10 ?_
    refine lv_iload_n hx hb dX3_read_13 rfl (lv_at hl 1 rfl) ?_
    obtain ⟨hn5, hf⟩ := ck_of hf
    refine w_iald X hP (c0 := 20) (i0 := 3) (show 3 < 7 by decide) (n := 1024) rfl hn5 dX3_read_14 ?_
    obtain ⟨v8, st6, hr7, hf⟩ := bd_2 hf
    refine w_S1 X (TX0_isCode l hr7) hP hS rfl KX0_isCode ml_X3_29 ⟨rfl, rfl⟩ ⟨by decide, by decide⟩ rfl hl.1 (Nat.le_of_ble_eq_true rfl) dX3_read_15 (fun H locs hP hS => ?_)
    refine lv_if_ne (tgt := 24) hx hb dX3_read_18 (by decide) (fun c9 => ?_) (fun c9 => ?_)
    · replace hf := (if_neg c9).symm.trans hf
      refine lv_aload_n hx hb dX3_read_24 rfl (lv_at hl 3 rfl) ?_
      refine lv_iload hx hb dX3_read_25 (lv_at hl 4 rfl) ?_
      refine lv_aload_n hx hb dX3_read_27 rfl (lv_at hl 0 rfl) ?_
      refine gC_Memory_bytes X hP fl_X3_9 dX3_read_28 ?_
      refine lv_iload_n hx hb dX3_read_31 rfl (lv_at hl 1 rfl) ?_
      obtain ⟨hn10, hf⟩ := ck_of hf
      refine w_iald X hP (c0 := 20) (i0 := 3) (show 3 < 7 by decide) (n := 1024) rfl hn10 dX3_read_32 ?_
      obtain ⟨hn11, hf⟩ := ck_of hf
      refine w_iast X hP hS (c0 := (rwC q3)) (i0 := (rwI mo q3)) (VC_rw mo _) (n := (rwN q3)) (fun g => ECf_rw g _ _) hn11 dX3_read_33 (fun H locs hP hS => ?_)
      obtain ⟨st12, hP, hf⟩ := nm_gen (P := fun z => HW D (VC mo) la (ECf cyI cyF cyM mo la) z H) hP hf
      refine lv_aload_n hx hb dX3_read_34 rfl (lv_at hl 0 rfl) ?_
      refine gC_Memory_bytes X hP fl_X3_9 dX3_read_35 ?_
      refine lv_iload_n hx hb dX3_read_38 rfl (lv_at hl 1 rfl) ?_
      obtain ⟨hn13, hf⟩ := ck_of hf
      refine w_iald X hP (c0 := 20) (i0 := 3) (show 3 < 7 by decide) (n := 1024) rfl hn13 dX3_read_39 ?_
      obtain ⟨v16, st14, hr15, hf⟩ := bd_2 hf
      refine w_S1 X (TX0_formOf l hr15) hP hS rfl KX0_formOf ml_X3_34 ⟨rfl, rfl⟩ ⟨by decide, by decide⟩ rfl hl.1 (Nat.le_of_ble_eq_true rfl) dX3_read_40 (fun H locs hP hS => ?_)
      refine lv_istore (lv' := [(5, .int v16), (0, .ref (la 4 0)), (1, .int a1), (2, .int a2), (3, .ref (la (rwC q3) (rwI mo q3))), (4, .int a4)]) hx hb dX3_read_43 hl (by decide) rfl (fun ls hl => ?_)
      refine lv_iconst (v := 1) hx hb dX3_read_45 (by decide) ?_
      refine lv_istore (lv' := [(6, .int (1 : Int32)), (5, .int v16), (0, .ref (la 4 0)), (1, .int a1), (2, .int a2), (3, .ref (la (rwC q3) (rwI mo q3))), (4, .int a4)]) hx hb dX3_read_46 hl (by decide) rfl (fun ls hl => ?_)
      exact BX3_read_48 X hr hlk N _ _ _ _ _ _ _ _ _ _  hf hP hS (lv_sub hl [2, 3, 4, 5, 6, 1, 0] rfl)
    · replace hf := (if_pos c9).symm.trans hf
      refine lv_bipush (v := 7) hx hb dX3_read_21 (by decide) ?_
      obtain ⟨rfl, rfl⟩ := sp_2 hf
      exact w_iret X hr hlk hP hS dX3_read_23
  · replace hf := (if_pos c4).symm.trans hf
    refine lv_iconst (v := 1) hx hb dX3_read_7 (by decide) ?_
    obtain ⟨rfl, rfl⟩ := sp_2 hf
    exact w_iret X hr hlk hP hS dX3_read_8
theorem KX3_read : xKv yX3_read cX3_read 8 (some .int) RX3 4 := ⟨cd_X3_read, im_X3_read, se_X3_read, in_X3, by decide +kernel⟩
abbrev rm_X0_columnOfOffset : Room := { frames := 0, cells := 0, slots := 0, locals := 0 }
def fX0_columnOfOffset (N mo : Nat) (a0 : Int32) (st : xSt) : Option (Int32 × xSt) := if a0 = (9 : Int32) then some ((1 : Int32), st) else if a0 = (10 : Int32) then some ((3 : Int32), st) else if a0 = (11 : Int32) then some ((3 : Int32), st) else if a0 = (12 : Int32) then some ((0 : Int32), st) else if a0 = (13 : Int32) then some ((0 : Int32), st) else if a0 = (14 : Int32) then some ((1 : Int32), st) else some ((0 : Int32), st)
set_option maxHeartbeats 4000000 in
set_option maxRecDepth 100000 in
theorem TX0_columnOfOffset (l : Launch) {D : va_G} {la : Nat → Nat → Nat} {cyI cyF cyM : ClassId} {t0 mo N : Nat} {a0 : Int32} {st : xSt} {r : Int32} {st' : xSt} (hf : fX0_columnOfOffset N mo a0 st = some (r, st')) : MetC D cyI cyF cyM mo la t0 l yX0_columnOfOffset (Cond.code yX0_columnOfOffset cX0_columnOfOffset 1 (some .int) :: xALL) rm_X0_columnOfOffset [.int a0] (some (.int r)) st st' := by
  refine MetW.intro (own := RX0) (by decide) (Nat.le_of_ble_eq_true rfl) rfl ?_
  intro p e s m below meth c X hr hlk hP ls hl
  have hx := X.1.1
  have hb := X.1.2.1
  have hS : va_S (xA (VC mo) la) s.heap s.heap [] := va_S.rf
  unfold fX0_columnOfOffset at hf
  replace hl : lv_has ls 1 [(0, .int a0)] := hl
  refine lv_iload_n hx hb dX0_columnOfOffset_0 rfl (lv_at hl 0 rfl) ?_
  by_cases c1 : a0 = (9 : Int32)
  · replace hf := (if_pos c1).symm.trans hf
    refine w_stk (st1 := .int (9 : Int32) :: _) (by rw [c1]) ?_
    refine lv_tableIn (off := 39) (tgt := 40) hx hb dX0_columnOfOffset_1 (by decide) (by decide) (by decide) (by decide) ?_
    refine lv_iconst (v := 1) hx hb dX0_columnOfOffset_40 (by decide) ?_
    obtain ⟨rfl, rfl⟩ := sp_2 hf
    exact w_iret X hr hlk hP hS dX0_columnOfOffset_41
  replace hf := (if_neg c1).symm.trans hf
  by_cases c2 : a0 = (10 : Int32)
  · replace hf := (if_pos c2).symm.trans hf
    refine w_stk (st1 := .int (10 : Int32) :: _) (by rw [c2]) ?_
    refine lv_tableIn (off := 41) (tgt := 42) hx hb dX0_columnOfOffset_1 (by decide) (by decide) (by decide) (by decide) ?_
    refine lv_iconst (v := 3) hx hb dX0_columnOfOffset_42 (by decide) ?_
    obtain ⟨rfl, rfl⟩ := sp_2 hf
    exact w_iret X hr hlk hP hS dX0_columnOfOffset_43
  replace hf := (if_neg c2).symm.trans hf
  by_cases c3 : a0 = (11 : Int32)
  · replace hf := (if_pos c3).symm.trans hf
    refine w_stk (st1 := .int (11 : Int32) :: _) (by rw [c3]) ?_
    refine lv_tableIn (off := 41) (tgt := 42) hx hb dX0_columnOfOffset_1 (by decide) (by decide) (by decide) (by decide) ?_
    refine lv_iconst (v := 3) hx hb dX0_columnOfOffset_42 (by decide) ?_
    obtain ⟨rfl, rfl⟩ := sp_2 hf
    exact w_iret X hr hlk hP hS dX0_columnOfOffset_43
  replace hf := (if_neg c3).symm.trans hf
  by_cases c4 : a0 = (12 : Int32)
  · replace hf := (if_pos c4).symm.trans hf
    refine w_stk (st1 := .int (12 : Int32) :: _) (by rw [c4]) ?_
    refine lv_tableIn (off := 43) (tgt := 44) hx hb dX0_columnOfOffset_1 (by decide) (by decide) (by decide) (by decide) ?_
    refine lv_iconst (v := 0) hx hb dX0_columnOfOffset_44 (by decide) ?_
    obtain ⟨rfl, rfl⟩ := sp_2 hf
    exact w_iret X hr hlk hP hS dX0_columnOfOffset_45
  replace hf := (if_neg c4).symm.trans hf
  by_cases c5 : a0 = (13 : Int32)
  · replace hf := (if_pos c5).symm.trans hf
    refine w_stk (st1 := .int (13 : Int32) :: _) (by rw [c5]) ?_
    refine lv_tableIn (off := 43) (tgt := 44) hx hb dX0_columnOfOffset_1 (by decide) (by decide) (by decide) (by decide) ?_
    refine lv_iconst (v := 0) hx hb dX0_columnOfOffset_44 (by decide) ?_
    obtain ⟨rfl, rfl⟩ := sp_2 hf
    exact w_iret X hr hlk hP hS dX0_columnOfOffset_45
  replace hf := (if_neg c5).symm.trans hf
  by_cases c6 : a0 = (14 : Int32)
  · replace hf := (if_pos c6).symm.trans hf
    refine w_stk (st1 := .int (14 : Int32) :: _) (by rw [c6]) ?_
    refine lv_tableIn (off := 39) (tgt := 40) hx hb dX0_columnOfOffset_1 (by decide) (by decide) (by decide) (by decide) ?_
    refine lv_iconst (v := 1) hx hb dX0_columnOfOffset_40 (by decide) ?_
    obtain ⟨rfl, rfl⟩ := sp_2 hf
    exact w_iret X hr hlk hP hS dX0_columnOfOffset_41
  replace hf := (if_neg c6).symm.trans hf
  have gc1 := lv_neT c1 (show ((9 : Int32)).toInt = 9 by decide)
  have gc2 := lv_neT c2 (show ((10 : Int32)).toInt = 10 by decide)
  have gc3 := lv_neT c3 (show ((11 : Int32)).toInt = 11 by decide)
  have gc4 := lv_neT c4 (show ((12 : Int32)).toInt = 12 by decide)
  have gc5 := lv_neT c5 (show ((13 : Int32)).toInt = 13 by decide)
  have gc6 := lv_neT c6 (show ((14 : Int32)).toInt = 14 by decide)
  refine lv_tableOut (tgt := 44) hx hb dX0_columnOfOffset_1 (by omega) (by decide) ?_
  clear gc1 gc2 gc3 gc4 gc5 gc6
  refine lv_iconst (v := 0) hx hb dX0_columnOfOffset_44 (by decide) ?_
  obtain ⟨rfl, rfl⟩ := sp_2 hf
  exact w_iret X hr hlk hP hS dX0_columnOfOffset_45
theorem KX0_columnOfOffset : xKs yX0_columnOfOffset cX0_columnOfOffset 1 (some .int) RX0 1 := ⟨cd_X0_columnOfOffset, ss_X0_columnOfOffset, in_X0, by decide +kernel⟩
abbrev rm_X2_indexOf : Room := { frames := 0, cells := 0, slots := 0, locals := 0 }
def fX2_indexOf_b2 (N mo : Nat) : Nat → Nat → Int32 → Int32 → xSt → Option (Int32 × xSt)
  | 0, _, _, _, _ => none
  | n + 1, j0, a1, a2, st => if (st.1 3 j0 1) ≤ a2 then some ((-1 : Int32), st) else if ((a2 * (11 : Int32)) + (9 : Int32)) < 0 ∨ 660 ≤ (((a2 * (11 : Int32)) + (9 : Int32))).toNatClampNeg then none else if (st.1 22 j0 (((a2 * (11 : Int32)) + (9 : Int32))).toNatClampNeg) = a1 then some (a2, st) else nm (a2 + (1 : Int32)) (fun x4 => fX2_indexOf_b2 N mo n j0 a1 x4 st)
set_option maxHeartbeats 4000000 in
set_option maxRecDepth 100000 in
theorem BX2_indexOf_2 {p : Program} {l : Launch} {e : Env} {s : State} {m : MethodId} {args : Array Value} {below : List Frame} {meth : Method} {c : Code} {D : va_G} {la : Nat → Nat → Nat} {cyI cyF cyM : ClassId} {t0 mo N : Nat} {r : Int32} {st' : xSt} (X : xCx D (VC mo) la cyI cyF cyM t0 p m c cX2_indexOf 3 s args RX2) (hr : meth.sig.returnType = (some .int)) (hlk : meth.locks = false) : ∀ n : Nat, ∀ (j0 : Nat) (a1 : Int32) (a2 : Int32) (st : xSt) (H : Heap) (locs : List Loc) (ls : Array Slot), VC mo 3 j0 → fX2_indexOf_b2 N mo n j0 a1 a2 st = some (r, st') → HW D (VC mo) la (ECf cyI cyF cyM mo la) st H → va_S (xA (VC mo) la) s.heap H locs → lv_has ls 3 [(0, .ref (la 3 j0)), (1, .int a1), (2, .int a2)] → W p l e rm_X2_indexOf s m args below meth c H locs 0 0 (MQ below (xQc D (VC mo) la (ECf cyI cyF cyM mo la) (some (.int r)) st') args s 0 0 (xA (VC mo) la)) (F0 m 2 ls []) := by
  have hx := X.1.1
  have hb := X.1.2.1
  intro n
  induction n with
  | zero =>
    intro j0 a1 a2 st H locs ls hj0 hf hP hS hl
    rw [fX2_indexOf_b2] at hf
    cases hf
  | succ n ih =>
    intro j0 a1 a2 st H locs ls hj0 hf hP hS hl
    rw [fX2_indexOf_b2] at hf
    refine lv_iload_n hx hb dX2_indexOf_2 rfl (lv_at hl 2 rfl) ?_
    refine lv_aload_n hx hb dX2_indexOf_3 rfl (lv_at hl 0 rfl) ?_
    refine gC_Made_size X hP hj0 fl_X2_21 dX2_indexOf_4 ?_
    refine lv_icmp_ge (tgt := 34) hx hb dX2_indexOf_7 (by decide) (fun c1 => ?_) (fun c1 => ?_)
    · replace hf := (if_pos c1).symm.trans hf
      refine lv_iconst (v := -1) hx hb dX2_indexOf_34 (by decide) ?_
      obtain ⟨rfl, rfl⟩ := sp_2 hf
      exact w_iret X hr hlk hP hS dX2_indexOf_35
    · replace hf := (if_neg c1).symm.trans hf
      refine lv_aload_n hx hb dX2_indexOf_10 rfl (lv_at hl 0 rfl) ?_
      refine gC_Made_rows X hP hj0 fl_X2_13 dX2_indexOf_11 ?_
      refine lv_iload_n hx hb dX2_indexOf_14 rfl (lv_at hl 2 rfl) ?_
      refine lv_bipush (v := 11) hx hb dX2_indexOf_15 (by decide) ?_
      refine lv_imul hx hb dX2_indexOf_17 ?_
      refine lv_bipush (v := 9) hx hb dX2_indexOf_18 (by decide) ?_
      refine lv_iadd hx hb dX2_indexOf_20 ?_
      obtain ⟨hn2, hf⟩ := ck_of hf
      refine w_iald X hP (c0 := 22) (i0 := j0) hj0 (n := 660) rfl hn2 dX2_indexOf_21 ?_
      refine lv_iload_n hx hb dX2_indexOf_22 rfl (lv_at hl 1 rfl) ?_
      refine lv_icmp_ne (tgt := 28) hx hb dX2_indexOf_23 (by decide) (fun c3 => ?_) (fun c3 => ?_)
      · replace hf := (if_neg c3).symm.trans hf
        obtain ⟨x4, ex⟩ : ∃ y : Int32, y = (a2 + (1 : Int32)) := ⟨_, rfl⟩
        replace hf := nm_of hf ex
        refine lv_iinc (v := x4) (lv' := [(2, .int x4), (0, .ref (la 3 j0)), (1, .int a1)]) hx hb dX2_indexOf_28 hl (k := 2) rfl (by rw [ex]; rfl) (by decide) rfl (fun ls hl => ?_)
        clear ex
        refine lv_goto (tgt := 2) hx hb dX2_indexOf_31 (by decide) ?_
        exact ih _ _ _ _ _ _ _ hj0 hf hP hS (lv_sub hl [1, 2, 0] rfl)
      · replace hf := (if_pos c3).symm.trans hf
        refine lv_iload_n hx hb dX2_indexOf_26 rfl (lv_at hl 2 rfl) ?_
        obtain ⟨rfl, rfl⟩ := sp_2 hf
        exact w_iret X hr hlk hP hS dX2_indexOf_27
def fX2_indexOf (N mo : Nat) (j0 : Nat) (a1 : Int32) (st : xSt) : Option (Int32 × xSt) := fX2_indexOf_b2 N mo N j0 a1 (0 : Int32) st
set_option maxHeartbeats 4000000 in
set_option maxRecDepth 100000 in
theorem TX2_indexOf (l : Launch) {D : va_G} {la : Nat → Nat → Nat} {cyI cyF cyM : ClassId} {t0 mo N : Nat} {j0 : Nat} {a1 : Int32} (hj0 : VC mo 3 j0) {st : xSt} {r : Int32} {st' : xSt} (hf : fX2_indexOf N mo j0 a1 st = some (r, st')) : MetC D cyI cyF cyM mo la t0 l yX2_indexOf (Cond.code yX2_indexOf cX2_indexOf 3 (some .int) :: xALL) rm_X2_indexOf [.ref (la 3 j0), .int a1] (some (.int r)) st st' := by
  refine MetW.intro (own := RX2) (by decide) (Nat.le_of_ble_eq_true rfl) rfl ?_
  intro p e s m below meth c X hr hlk hP ls hl
  have hx := X.1.1
  have hb := X.1.2.1
  have hS : va_S (xA (VC mo) la) s.heap s.heap [] := va_S.rf
  unfold fX2_indexOf at hf
  replace hl : lv_has ls 3 [(0, .ref (la 3 j0)), (1, .int a1)] := hl
  refine lv_iconst (v := 0) hx hb dX2_indexOf_0 (by decide) ?_
  refine lv_istore_n (lv' := [(2, .int (0 : Int32)), (0, .ref (la 3 j0)), (1, .int a1)]) hx hb dX2_indexOf_1 rfl hl (by decide) rfl (fun ls hl => ?_)
  exact BX2_indexOf_2 X hr hlk N _ _ _ _ _ _ _ hj0 hf hP hS (lv_sub hl [1, 2, 0] rfl)
theorem KX2_indexOf : xKv yX2_indexOf cX2_indexOf 3 (some .int) RX2 1 := ⟨cd_X2_indexOf, im_X2_indexOf, se_X2_indexOf, in_X2, by decide +kernel⟩
abbrev rm_X2_linkTargets : Room := { frames := 1, cells := 0, slots := 0, locals := 22 }
def fX2_linkTargets_b72 (N mo : Nat) (k2 : Nat → Int32 → xSt → Option (Int32 × xSt)) (j0 : Nat) (a2 : Int32) (st : xSt) : Option (Int32 × xSt) := if (a2 + (9 : Int32)) < 0 ∨ 660 ≤ ((a2 + (9 : Int32))).toNatClampNeg then none else some ((st.1 22 j0 ((a2 + (9 : Int32))).toNatClampNeg), st)
set_option maxHeartbeats 4000000 in
set_option maxRecDepth 100000 in
theorem BX2_linkTargets_72 {p : Program} {l : Launch} {e : Env} {s : State} {m : MethodId} {args : Array Value} {below : List Frame} {meth : Method} {c : Code} {D : va_G} {la : Nat → Nat → Nat} {cyI cyF cyM : ClassId} {t0 mo N : Nat} {k2 : Nat → Int32 → xSt → Option (Int32 × xSt)} {r : Int32} {st' : xSt} (X : xCx D (VC mo) la cyI cyF cyM t0 p m c cX2_linkTargets 6 s args RX2) (hr : meth.sig.returnType = (some .int)) (hlk : meth.locks = false) (hk2 : ∀ (j0 : Nat) (a1 : Int32) (st : xSt) (H : Heap) (locs : List Loc) (ls : Array Slot), VC mo 3 j0 → k2 j0 a1 st = some (r, st') → HW D (VC mo) la (ECf cyI cyF cyM mo la) st H → va_S (xA (VC mo) la) s.heap H locs → lv_has ls 6 [(0, .ref (la 3 j0)), (1, .int a1)] → W p l e rm_X2_linkTargets s m args below meth c H locs 0 0 (MQ below (xQc D (VC mo) la (ECf cyI cyF cyM mo la) (some (.int r)) st') args s 0 0 (xA (VC mo) la)) (F0 m 2 ls [])) : ∀ (j0 : Nat) (a2 : Int32) (st : xSt) (H : Heap) (locs : List Loc) (ls : Array Slot), VC mo 3 j0 → fX2_linkTargets_b72 N mo k2 j0 a2 st = some (r, st') → HW D (VC mo) la (ECf cyI cyF cyM mo la) st H → va_S (xA (VC mo) la) s.heap H locs → lv_has ls 6 [(0, .ref (la 3 j0)), (2, .int a2)] → W p l e rm_X2_linkTargets s m args below meth c H locs 0 0 (MQ below (xQc D (VC mo) la (ECf cyI cyF cyM mo la) (some (.int r)) st') args s 0 0 (xA (VC mo) la)) (F0 m 72 ls []) := by
  have hx := X.1.1
  have hb := X.1.2.1
  intro j0 a2 st H locs ls hj0 hf hP hS hl
  unfold fX2_linkTargets_b72 at hf
  refine lv_aload_n hx hb dX2_linkTargets_72 rfl (lv_at hl 0 rfl) ?_
  refine gC_Made_rows X hP hj0 fl_X2_13 dX2_linkTargets_73 ?_
  refine lv_iload_n hx hb dX2_linkTargets_76 rfl (lv_at hl 1 rfl) ?_
  refine lv_bipush (v := 9) hx hb dX2_linkTargets_77 (by decide) ?_
  refine lv_iadd hx hb dX2_linkTargets_79 ?_
  obtain ⟨hn19, hf⟩ := ck_of hf
  refine w_iald X hP (c0 := 22) (i0 := j0) hj0 (n := 660) rfl hn19 dX2_linkTargets_80 ?_
  obtain ⟨rfl, rfl⟩ := sp_2 hf
  exact w_iret X hr hlk hP hS dX2_linkTargets_81
def fX2_linkTargets_b93 (N mo : Nat) (k2 : Nat → Int32 → xSt → Option (Int32 × xSt)) (j0 : Nat) (a1 : Int32) (st : xSt) : Option (Int32 × xSt) := nm (a1 + (1 : Int32)) (fun x20 => k2 j0 x20 st)
set_option maxHeartbeats 4000000 in
set_option maxRecDepth 100000 in
theorem BX2_linkTargets_93 {p : Program} {l : Launch} {e : Env} {s : State} {m : MethodId} {args : Array Value} {below : List Frame} {meth : Method} {c : Code} {D : va_G} {la : Nat → Nat → Nat} {cyI cyF cyM : ClassId} {t0 mo N : Nat} {k2 : Nat → Int32 → xSt → Option (Int32 × xSt)} {r : Int32} {st' : xSt} (X : xCx D (VC mo) la cyI cyF cyM t0 p m c cX2_linkTargets 6 s args RX2) (hr : meth.sig.returnType = (some .int)) (hlk : meth.locks = false) (hk2 : ∀ (j0 : Nat) (a1 : Int32) (st : xSt) (H : Heap) (locs : List Loc) (ls : Array Slot), VC mo 3 j0 → k2 j0 a1 st = some (r, st') → HW D (VC mo) la (ECf cyI cyF cyM mo la) st H → va_S (xA (VC mo) la) s.heap H locs → lv_has ls 6 [(0, .ref (la 3 j0)), (1, .int a1)] → W p l e rm_X2_linkTargets s m args below meth c H locs 0 0 (MQ below (xQc D (VC mo) la (ECf cyI cyF cyM mo la) (some (.int r)) st') args s 0 0 (xA (VC mo) la)) (F0 m 2 ls [])) : ∀ (j0 : Nat) (a1 : Int32) (st : xSt) (H : Heap) (locs : List Loc) (ls : Array Slot), VC mo 3 j0 → fX2_linkTargets_b93 N mo k2 j0 a1 st = some (r, st') → HW D (VC mo) la (ECf cyI cyF cyM mo la) st H → va_S (xA (VC mo) la) s.heap H locs → lv_has ls 6 [(0, .ref (la 3 j0)), (1, .int a1)] → W p l e rm_X2_linkTargets s m args below meth c H locs 0 0 (MQ below (xQc D (VC mo) la (ECf cyI cyF cyM mo la) (some (.int r)) st') args s 0 0 (xA (VC mo) la)) (F0 m 93 ls []) := by
  have hx := X.1.1
  have hb := X.1.2.1
  intro j0 a1 st H locs ls hj0 hf hP hS hl
  unfold fX2_linkTargets_b93 at hf
  obtain ⟨x20, ex⟩ : ∃ y : Int32, y = (a1 + (1 : Int32)) := ⟨_, rfl⟩
  replace hf := nm_of hf ex
  refine lv_iinc (v := x20) (lv' := [(1, .int x20), (0, .ref (la 3 j0))]) hx hb dX2_linkTargets_93 hl (k := 1) rfl (by rw [ex]; rfl) (by decide) rfl (fun ls hl => ?_)
  clear ex
  refine lv_goto (tgt := 2) hx hb dX2_linkTargets_96 (by decide) ?_
  exact hk2 _ _ _ _ _ _ hj0 hf hP hS (lv_sub hl [1, 0] rfl)
def fX2_linkTargets_b82 (N mo : Nat) (k2 : Nat → Int32 → xSt → Option (Int32 × xSt)) (j0 : Nat) (a1 : Int32) (a2 : Int32) (a5 : Int32) (st : xSt) : Option (Int32 × xSt) := if (a2 + (10 : Int32)) < 0 ∨ 660 ≤ ((a2 + (10 : Int32))).toNatClampNeg then none else nm (pI st 22 j0 ((a2 + (10 : Int32))).toNatClampNeg a5) (fun st18 => fX2_linkTargets_b93 N mo k2 j0 a1 st18)
set_option maxHeartbeats 4000000 in
set_option maxRecDepth 100000 in
theorem BX2_linkTargets_82 {p : Program} {l : Launch} {e : Env} {s : State} {m : MethodId} {args : Array Value} {below : List Frame} {meth : Method} {c : Code} {D : va_G} {la : Nat → Nat → Nat} {cyI cyF cyM : ClassId} {t0 mo N : Nat} {k2 : Nat → Int32 → xSt → Option (Int32 × xSt)} {r : Int32} {st' : xSt} (X : xCx D (VC mo) la cyI cyF cyM t0 p m c cX2_linkTargets 6 s args RX2) (hr : meth.sig.returnType = (some .int)) (hlk : meth.locks = false) (hk2 : ∀ (j0 : Nat) (a1 : Int32) (st : xSt) (H : Heap) (locs : List Loc) (ls : Array Slot), VC mo 3 j0 → k2 j0 a1 st = some (r, st') → HW D (VC mo) la (ECf cyI cyF cyM mo la) st H → va_S (xA (VC mo) la) s.heap H locs → lv_has ls 6 [(0, .ref (la 3 j0)), (1, .int a1)] → W p l e rm_X2_linkTargets s m args below meth c H locs 0 0 (MQ below (xQc D (VC mo) la (ECf cyI cyF cyM mo la) (some (.int r)) st') args s 0 0 (xA (VC mo) la)) (F0 m 2 ls [])) : ∀ (j0 : Nat) (a1 : Int32) (a2 : Int32) (a5 : Int32) (st : xSt) (H : Heap) (locs : List Loc) (ls : Array Slot), VC mo 3 j0 → fX2_linkTargets_b82 N mo k2 j0 a1 a2 a5 st = some (r, st') → HW D (VC mo) la (ECf cyI cyF cyM mo la) st H → va_S (xA (VC mo) la) s.heap H locs → lv_has ls 6 [(0, .ref (la 3 j0)), (1, .int a1), (2, .int a2), (5, .int a5)] → W p l e rm_X2_linkTargets s m args below meth c H locs 0 0 (MQ below (xQc D (VC mo) la (ECf cyI cyF cyM mo la) (some (.int r)) st') args s 0 0 (xA (VC mo) la)) (F0 m 82 ls []) := by
  have hx := X.1.1
  have hb := X.1.2.1
  intro j0 a1 a2 a5 st H locs ls hj0 hf hP hS hl
  unfold fX2_linkTargets_b82 at hf
  refine lv_aload_n hx hb dX2_linkTargets_82 rfl (lv_at hl 0 rfl) ?_
  refine gC_Made_rows X hP hj0 fl_X2_13 dX2_linkTargets_83 ?_
  refine lv_iload_n hx hb dX2_linkTargets_86 rfl (lv_at hl 2 rfl) ?_
  refine lv_bipush (v := 10) hx hb dX2_linkTargets_87 (by decide) ?_
  refine lv_iadd hx hb dX2_linkTargets_89 ?_
  refine lv_iload hx hb dX2_linkTargets_90 (lv_at hl 3 rfl) ?_
  obtain ⟨hn17, hf⟩ := ck_of hf
  refine w_iast X hP hS (c0 := 22) (i0 := j0) hj0 (n := 660) (fun _ => rfl) hn17 dX2_linkTargets_92 (fun H locs hP hS => ?_)
  obtain ⟨st18, hP, hf⟩ := nm_gen (P := fun z => HW D (VC mo) la (ECf cyI cyF cyM mo la) z H) hP hf
  exact BX2_linkTargets_93 X hr hlk hk2 _ _ _ _ _ _ hj0 hf hP hS (lv_sub hl [0, 1] rfl)
def fX2_linkTargets_b2 (N mo : Nat) : Nat → Nat → Int32 → xSt → Option (Int32 × xSt)
  | 0, _, _, _ => none
  | n + 1, j0, a1, st => if (st.1 3 j0 1) ≤ a1 then some ((-1 : Int32), st) else nm (a1 * (11 : Int32)) (fun x2 => if x2 < 0 ∨ 660 ≤ (x2).toNatClampNeg then none else bd (fX0_columnOfOffset N mo (st.1 22 j0 (x2).toNatClampNeg) st) (fun v6 st4 => if v6 = (0 : Int32) then fX2_linkTargets_b93 N mo (fX2_linkTargets_b2 N mo n) j0 a1 st4 else if (x2 + v6) < 0 ∨ 660 ≤ ((x2 + v6)).toNatClampNeg then none else nm (st4.1 22 j0 ((x2 + v6)).toNatClampNeg) (fun x9 => bd (fX2_indexOf N mo j0 x9 st4) (fun v12 st10 => if v12 = (-1 : Int32) then if x2 < 0 ∨ 660 ≤ (x2).toNatClampNeg then none else if (st10.1 22 j0 (x2).toNatClampNeg) = (14 : Int32) then if x9 = (0 : Int32) then fX2_linkTargets_b82 N mo (fX2_linkTargets_b2 N mo n) j0 a1 x2 v12 st10 else fX2_linkTargets_b72 N mo (fX2_linkTargets_b2 N mo n) j0 x2 st10 else fX2_linkTargets_b72 N mo (fX2_linkTargets_b2 N mo n) j0 x2 st10 else fX2_linkTargets_b82 N mo (fX2_linkTargets_b2 N mo n) j0 a1 x2 v12 st10))))
set_option maxHeartbeats 4000000 in
set_option maxRecDepth 100000 in
theorem BX2_linkTargets_2 {p : Program} {l : Launch} {e : Env} {s : State} {m : MethodId} {args : Array Value} {below : List Frame} {meth : Method} {c : Code} {D : va_G} {la : Nat → Nat → Nat} {cyI cyF cyM : ClassId} {t0 mo N : Nat} {r : Int32} {st' : xSt} (X : xCx D (VC mo) la cyI cyF cyM t0 p m c cX2_linkTargets 6 s args RX2) (hr : meth.sig.returnType = (some .int)) (hlk : meth.locks = false) : ∀ n : Nat, ∀ (j0 : Nat) (a1 : Int32) (st : xSt) (H : Heap) (locs : List Loc) (ls : Array Slot), VC mo 3 j0 → fX2_linkTargets_b2 N mo n j0 a1 st = some (r, st') → HW D (VC mo) la (ECf cyI cyF cyM mo la) st H → va_S (xA (VC mo) la) s.heap H locs → lv_has ls 6 [(0, .ref (la 3 j0)), (1, .int a1)] → W p l e rm_X2_linkTargets s m args below meth c H locs 0 0 (MQ below (xQc D (VC mo) la (ECf cyI cyF cyM mo la) (some (.int r)) st') args s 0 0 (xA (VC mo) la)) (F0 m 2 ls []) := by
  have hx := X.1.1
  have hb := X.1.2.1
  intro n
  induction n with
  | zero =>
    intro j0 a1 st H locs ls hj0 hf hP hS hl
    rw [fX2_linkTargets_b2] at hf
    cases hf
  | succ n ih =>
    intro j0 a1 st H locs ls hj0 hf hP hS hl
    rw [fX2_linkTargets_b2] at hf
    refine lv_iload_n hx hb dX2_linkTargets_2 rfl (lv_at hl 1 rfl) ?_
    refine lv_aload_n hx hb dX2_linkTargets_3 rfl (lv_at hl 0 rfl) ?_
    refine gC_Made_size X hP hj0 fl_X2_21 dX2_linkTargets_4 ?_
    refine lv_icmp_ge (tgt := 99) hx hb dX2_linkTargets_7 (by decide) (fun c1 => ?_) (fun c1 => ?_)
    · replace hf := (if_pos c1).symm.trans hf
      refine lv_iconst (v := -1) hx hb dX2_linkTargets_99 (by decide) ?_
      obtain ⟨rfl, rfl⟩ := sp_2 hf
      exact w_iret X hr hlk hP hS dX2_linkTargets_100
    · replace hf := (if_neg c1).symm.trans hf
      refine lv_iload_n hx hb dX2_linkTargets_10 rfl (lv_at hl 1 rfl) ?_
      refine lv_bipush (v := 11) hx hb dX2_linkTargets_11 (by decide) ?_
      refine lv_imul hx hb dX2_linkTargets_13 ?_
      refine lv_topi (fun x2 ex => ?_)
      replace hf := nm_of hf ex
      clear ex
      refine lv_istore_n (lv' := [(2, .int x2), (0, .ref (la 3 j0)), (1, .int a1)]) hx hb dX2_linkTargets_14 rfl hl (by decide) rfl (fun ls hl => ?_)
      refine lv_aload_n hx hb dX2_linkTargets_15 rfl (lv_at hl 1 rfl) ?_
      refine gC_Made_rows X hP hj0 fl_X2_13 dX2_linkTargets_16 ?_
      refine lv_iload_n hx hb dX2_linkTargets_19 rfl (lv_at hl 0 rfl) ?_
      obtain ⟨hn3, hf⟩ := ck_of hf
      refine w_iald X hP (c0 := 22) (i0 := j0) hj0 (n := 660) rfl hn3 dX2_linkTargets_20 ?_
      obtain ⟨v6, st4, hr5, hf⟩ := bd_2 hf
      refine w_S1 X (TX0_columnOfOffset l hr5) hP hS rfl KX0_columnOfOffset ml_X2_45 ⟨rfl, rfl⟩ ⟨by decide, by decide⟩ rfl hl.1 (Nat.le_of_ble_eq_true rfl) dX2_linkTargets_21 (fun H locs hP hS => ?_)
      refine lv_istore_n (lv' := [(3, .int v6), (2, .int x2), (0, .ref (la 3 j0)), (1, .int a1)]) hx hb dX2_linkTargets_24 rfl hl (by decide) rfl (fun ls hl => ?_)
      refine lv_iload_n hx hb dX2_linkTargets_25 rfl (lv_at hl 0 rfl) ?_
      refine lv_if_ne (tgt := 32) hx hb dX2_linkTargets_26 (by decide) (fun c7 => ?_) (fun c7 => ?_)
      · replace hf := (if_neg c7).symm.trans hf
        refine lv_aload_n hx hb dX2_linkTargets_32 rfl (lv_at hl 2 rfl) ?_
        refine gC_Made_rows X hP hj0 fl_X2_13 dX2_linkTargets_33 ?_
        refine lv_iload_n hx hb dX2_linkTargets_36 rfl (lv_at hl 1 rfl) ?_
        refine lv_iload_n hx hb dX2_linkTargets_37 rfl (lv_at hl 0 rfl) ?_
        refine lv_iadd hx hb dX2_linkTargets_38 ?_
        obtain ⟨hn8, hf⟩ := ck_of hf
        refine w_iald X hP (c0 := 22) (i0 := j0) hj0 (n := 660) rfl hn8 dX2_linkTargets_39 ?_
        refine lv_topi (fun x9 ex => ?_)
        replace hf := nm_of hf ex
        clear ex
        refine lv_istore (lv' := [(4, .int x9), (3, .int v6), (2, .int x2), (0, .ref (la 3 j0)), (1, .int a1)]) hx hb dX2_linkTargets_40 hl (by decide) rfl (fun ls hl => ?_)
        refine lv_aload_n hx hb dX2_linkTargets_42 rfl (lv_at hl 3 rfl) ?_
        refine lv_iload hx hb dX2_linkTargets_43 (lv_at hl 0 rfl) ?_
        obtain ⟨v12, st10, hr11, hf⟩ := bd_2 hf
        refine w_V1 X (TX2_indexOf l hj0 hr11) hP hS rfl KX2_indexOf ml_X2_49 ⟨rfl, rfl⟩ ⟨by decide, by decide⟩ (x_recv (E := fun c i => (ECf cyI cyF cyM mo la) (st4.1 c i) st4.2 c i) (c0 := 3) (i0 := j0) X.2.2.1 hP hj0 (ci := 3) rfl rfl) rfl hl.1 (Nat.le_of_ble_eq_true rfl) dX2_linkTargets_45 (fun H locs hP hS => ?_)
        refine lv_istore (lv' := [(5, .int v12), (4, .int x9), (3, .int v6), (2, .int x2), (0, .ref (la 3 j0)), (1, .int a1)]) hx hb dX2_linkTargets_48 hl (by decide) rfl (fun ls hl => ?_)
        refine lv_iload hx hb dX2_linkTargets_50 (lv_at hl 0 rfl) ?_
        refine lv_iconst (v := -1) hx hb dX2_linkTargets_52 (by decide) ?_
        refine lv_icmp_ne (tgt := 82) hx hb dX2_linkTargets_53 (by decide) (fun c13 => ?_) (fun c13 => ?_)
        · replace hf := (if_neg c13).symm.trans hf
          exact BX2_linkTargets_82 X hr hlk ih _ _ _ _ _ _ _ _ hj0 hf hP hS (lv_sub hl [4, 5, 3, 0] rfl)
        · replace hf := (if_pos c13).symm.trans hf
          refine lv_aload_n hx hb dX2_linkTargets_56 rfl (lv_at hl 4 rfl) ?_
          refine gC_Made_rows X hP hj0 fl_X2_13 dX2_linkTargets_57 ?_
          refine lv_iload_n hx hb dX2_linkTargets_60 rfl (lv_at hl 3 rfl) ?_
          obtain ⟨hn14, hf⟩ := ck_of hf
          refine w_iald X hP (c0 := 22) (i0 := j0) hj0 (n := 660) rfl hn14 dX2_linkTargets_61 ?_
          refine lv_bipush (v := 14) hx hb dX2_linkTargets_62 (by decide) ?_
          refine lv_icmp_ne (tgt := 72) hx hb dX2_linkTargets_64 (by decide) (fun c15 => ?_) (fun c15 => ?_)
          · replace hf := (if_neg c15).symm.trans hf
            exact BX2_linkTargets_72 X hr hlk ih _ _ _ _ _ _ hj0 hf hP hS (lv_sub hl [4, 3] rfl)
          · replace hf := (if_pos c15).symm.trans hf
            refine lv_iload hx hb dX2_linkTargets_67 (lv_at hl 1 rfl) ?_
            refine lv_if_eq (tgt := 82) hx hb dX2_linkTargets_69 (by decide) (fun c16 => ?_) (fun c16 => ?_)
            · replace hf := (if_pos c16).symm.trans hf
              exact BX2_linkTargets_82 X hr hlk ih _ _ _ _ _ _ _ _ hj0 hf hP hS (lv_sub hl [4, 5, 3, 0] rfl)
            · replace hf := (if_neg c16).symm.trans hf
              exact BX2_linkTargets_72 X hr hlk ih _ _ _ _ _ _ hj0 hf hP hS (lv_sub hl [4, 3] rfl)
      · replace hf := (if_pos c7).symm.trans hf
        refine lv_goto (tgt := 93) hx hb dX2_linkTargets_29 (by decide) ?_
        exact BX2_linkTargets_93 X hr hlk ih _ _ _ _ _ _ hj0 hf hP hS (lv_sub hl [2, 3] rfl)
def fX2_linkTargets (N mo : Nat) (j0 : Nat) (st : xSt) : Option (Int32 × xSt) := fX2_linkTargets_b2 N mo N j0 (0 : Int32) st
set_option maxHeartbeats 4000000 in
set_option maxRecDepth 100000 in
theorem TX2_linkTargets (l : Launch) {D : va_G} {la : Nat → Nat → Nat} {cyI cyF cyM : ClassId} {t0 mo N : Nat} {j0 : Nat} (hj0 : VC mo 3 j0) {st : xSt} {r : Int32} {st' : xSt} (hf : fX2_linkTargets N mo j0 st = some (r, st')) : MetC D cyI cyF cyM mo la t0 l yX2_linkTargets (Cond.code yX2_linkTargets cX2_linkTargets 6 (some .int) :: xALL) rm_X2_linkTargets [.ref (la 3 j0)] (some (.int r)) st st' := by
  refine MetW.intro (own := RX2) (by decide) (Nat.le_of_ble_eq_true rfl) rfl ?_
  intro p e s m below meth c X hr hlk hP ls hl
  have hx := X.1.1
  have hb := X.1.2.1
  have hS : va_S (xA (VC mo) la) s.heap s.heap [] := va_S.rf
  unfold fX2_linkTargets at hf
  replace hl : lv_has ls 6 [(0, .ref (la 3 j0))] := hl
  refine lv_iconst (v := 0) hx hb dX2_linkTargets_0 (by decide) ?_
  refine lv_istore_n (lv' := [(1, .int (0 : Int32)), (0, .ref (la 3 j0))]) hx hb dX2_linkTargets_1 rfl hl (by decide) rfl (fun ls hl => ?_)
  exact BX2_linkTargets_2 X hr hlk N _ _ _ _ _ _ hj0 hf hP hS (lv_sub hl [1, 0] rfl)
theorem KX2_linkTargets : xKv yX2_linkTargets cX2_linkTargets 6 (some .int) RX2 0 := ⟨cd_X2_linkTargets, im_X2_linkTargets, se_X2_linkTargets, in_X2, by decide +kernel⟩
abbrev rm_X2_readAhead : Room := { frames := 3, cells := 0, slots := 0, locals := 70 }
def fX2_readAhead_b15 (N mo : Nat) : Nat → Nat → Int32 → Int32 → Int32 → xSt → Option (Int32 × xSt)
  | 0, _, _, _, _, _ => none
  | n + 1, j0, a2, a3, a4, st => if (60 : Int32) ≤ a4 then some (a3, st) else nm (a4 * (11 : Int32)) (fun x4 => if a2 < 0 ∨ 1024 ≤ (a2).toNatClampNeg then none else bd (fX3_read N mo (a2 + a3) (st.1 20 3 (a2).toNatClampNeg) (j0 + 1) x4 st) (fun v8 st6 => if v8 = (0 : Int32) then if (x4 + (9 : Int32)) < 0 ∨ 660 ≤ ((x4 + (9 : Int32))).toNatClampNeg then none else nm (pI st6 22 j0 ((x4 + (9 : Int32))).toNatClampNeg a3) (fun st11 => if x4 < 0 ∨ 660 ≤ (x4).toNatClampNeg then none else if (st11.1 22 j0 (x4).toNatClampNeg) = (15 : Int32) then nm (pI st11 3 j0 1 (a4 + (1 : Int32))) (fun st17 => nm (pI st17 3 j0 4 (a2 / (64 : Int32))) (fun st18 => nm (pI st18 3 j0 5 ((a2 + a3) / (64 : Int32))) (fun st19 => bd (fX2_linkTargets N mo j0 st19) (fun v22 st20 => some (v22, st20))))) else if (x4 + (8 : Int32)) < 0 ∨ 660 ≤ ((x4 + (8 : Int32))).toNatClampNeg then none else nm (a3 + (st11.1 22 j0 ((x4 + (8 : Int32))).toNatClampNeg)) (fun x15 => nm (a4 + (1 : Int32)) (fun x16 => fX2_readAhead_b15 N mo n j0 a2 x15 x16 st11))) else some (a3, st6)))
set_option maxHeartbeats 4000000 in
set_option maxRecDepth 100000 in
theorem BX2_readAhead_15 {p : Program} {l : Launch} {e : Env} {s : State} {m : MethodId} {args : Array Value} {below : List Frame} {meth : Method} {c : Code} {D : va_G} {la : Nat → Nat → Nat} {cyI cyF cyM : ClassId} {t0 mo N : Nat} {r : Int32} {st' : xSt} (X : xCx D (VC mo) la cyI cyF cyM t0 p m c cX2_readAhead 6 s args RX2) (hr : meth.sig.returnType = (some .int)) (hlk : meth.locks = false) : ∀ n : Nat, ∀ (j0 : Nat) (a2 : Int32) (a3 : Int32) (a4 : Int32) (st : xSt) (H : Heap) (locs : List Loc) (ls : Array Slot), VC mo 3 j0 → fX2_readAhead_b15 N mo n j0 a2 a3 a4 st = some (r, st') → HW D (VC mo) la (ECf cyI cyF cyM mo la) st H → va_S (xA (VC mo) la) s.heap H locs → lv_has ls 6 [(0, .ref (la 3 j0)), (1, .ref (la 4 0)), (2, .int a2), (3, .int a3), (4, .int a4)] → W p l e rm_X2_readAhead s m args below meth c H locs 0 0 (MQ below (xQc D (VC mo) la (ECf cyI cyF cyM mo la) (some (.int r)) st') args s 0 0 (xA (VC mo) la)) (F0 m 15 ls []) := by
  have hx := X.1.1
  have hb := X.1.2.1
  intro n
  induction n with
  | zero =>
    intro j0 a2 a3 a4 st H locs ls hj0 hf hP hS hl
    rw [fX2_readAhead_b15] at hf
    cases hf
  | succ n ih =>
    intro j0 a2 a3 a4 st H locs ls hj0 hf hP hS hl
    rw [fX2_readAhead_b15] at hf
    refine lv_iload hx hb dX2_readAhead_15 (lv_at hl 4 rfl) ?_
    refine lv_bipush (v := 60) hx hb dX2_readAhead_17 (by decide) ?_
    refine lv_icmp_ge (tgt := 126) hx hb dX2_readAhead_19 (by decide) (fun c3 => ?_) (fun c3 => ?_)
    · replace hf := (if_pos c3).symm.trans hf
      refine lv_iload_n hx hb dX2_readAhead_126 rfl (lv_at hl 3 rfl) ?_
      obtain ⟨rfl, rfl⟩ := sp_2 hf
      exact w_iret X hr hlk hP hS dX2_readAhead_127
    · replace hf := (if_neg c3).symm.trans hf
      refine lv_iload hx hb dX2_readAhead_22 (lv_at hl 4 rfl) ?_
      refine lv_bipush (v := 11) hx hb dX2_readAhead_24 (by decide) ?_
      refine lv_imul hx hb dX2_readAhead_26 ?_
      refine lv_topi (fun x4 ex => ?_)
      replace hf := nm_of hf ex
      clear ex
      refine lv_istore (lv' := [(5, .int x4), (0, .ref (la 3 j0)), (1, .ref (la 4 0)), (2, .int a2), (3, .int a3), (4, .int a4)]) hx hb dX2_readAhead_27 hl (by decide) rfl (fun ls hl => ?_)
      refine lv_aload_n hx hb dX2_readAhead_29 rfl (lv_at hl 2 rfl) ?_
      refine lv_iload_n hx hb dX2_readAhead_30 rfl (lv_at hl 3 rfl) ?_
      refine lv_iload_n hx hb dX2_readAhead_31 rfl (lv_at hl 4 rfl) ?_
      refine lv_iadd hx hb dX2_readAhead_32 ?_
      refine lv_aload_n hx hb dX2_readAhead_33 rfl (lv_at hl 2 rfl) ?_
      refine gC_Memory_bytes X hP fl_X2_24 dX2_readAhead_34 ?_
      refine lv_iload_n hx hb dX2_readAhead_37 rfl (lv_at hl 3 rfl) ?_
      obtain ⟨hn5, hf⟩ := ck_of hf
      refine w_iald X hP (c0 := 20) (i0 := 3) (show 3 < 7 by decide) (n := 1024) rfl hn5 dX2_readAhead_38 ?_
      refine lv_aload_n hx hb dX2_readAhead_39 rfl (lv_at hl 1 rfl) ?_
      refine gC_Made_rows X hP hj0 fl_X2_13 dX2_readAhead_40 ?_
      refine lv_iload hx hb dX2_readAhead_43 (lv_at hl 0 rfl) ?_
      refine w_stk (st1 := .int x4 :: .ref (la (rwC (j0 + 1)) (rwI mo (j0 + 1))) :: .int (st.1 20 3 (a2).toNatClampNeg) :: .int (a2 + a3) :: .ref (la 4 0) :: _) (by rw [rw_s hj0]) ?_
      obtain ⟨v8, st6, hr7, hf⟩ := bd_2 hf
      refine w_V1 X (TX3_read l hr7) hP hS rfl KX3_read ml_X2_29 ⟨rfl, rfl⟩ ⟨by decide, by decide⟩ (x_recv (E := fun c i => (ECf cyI cyF cyM mo la) (st.1 c i) st.2 c i) (c0 := 4) (i0 := 0) X.2.2.1 hP rfl (ci := 4) rfl rfl) rfl hl.1 (Nat.le_of_ble_eq_true rfl) dX2_readAhead_45 (fun H locs hP hS => ?_)
      refine lv_if_eq (tgt := 53) hx hb dX2_readAhead_48 (by decide) (fun c9 => ?_) (fun c9 => ?_)
      · replace hf := (if_pos c9).symm.trans hf
        refine lv_aload_n hx hb dX2_readAhead_53 rfl (lv_at hl 1 rfl) ?_
        refine gC_Made_rows X hP hj0 fl_X2_13 dX2_readAhead_54 ?_
        refine lv_iload hx hb dX2_readAhead_57 (lv_at hl 0 rfl) ?_
        refine lv_bipush (v := 9) hx hb dX2_readAhead_59 (by decide) ?_
        refine lv_iadd hx hb dX2_readAhead_61 ?_
        refine lv_iload_n hx hb dX2_readAhead_62 rfl (lv_at hl 4 rfl) ?_
        obtain ⟨hn10, hf⟩ := ck_of hf
        refine w_iast X hP hS (c0 := 22) (i0 := j0) hj0 (n := 660) (fun _ => rfl) hn10 dX2_readAhead_63 (fun H locs hP hS => ?_)
        obtain ⟨st11, hP, hf⟩ := nm_gen (P := fun z => HW D (VC mo) la (ECf cyI cyF cyM mo la) z H) hP hf
        refine lv_aload_n hx hb dX2_readAhead_64 rfl (lv_at hl 1 rfl) ?_
        refine gC_Made_rows X hP hj0 fl_X2_13 dX2_readAhead_65 ?_
        refine lv_iload hx hb dX2_readAhead_68 (lv_at hl 0 rfl) ?_
        obtain ⟨hn12, hf⟩ := ck_of hf
        refine w_iald X hP (c0 := 22) (i0 := j0) hj0 (n := 660) rfl hn12 dX2_readAhead_70 ?_
        refine lv_bipush (v := 15) hx hb dX2_readAhead_71 (by decide) ?_
        refine lv_icmp_ne (tgt := 107) hx hb dX2_readAhead_73 (by decide) (fun c13 => ?_) (fun c13 => ?_)
        · replace hf := (if_neg c13).symm.trans hf
          refine lv_iload_n hx hb dX2_readAhead_107 rfl (lv_at hl 4 rfl) ?_
          refine lv_aload_n hx hb dX2_readAhead_108 rfl (lv_at hl 1 rfl) ?_
          refine gC_Made_rows X hP hj0 fl_X2_13 dX2_readAhead_109 ?_
          refine lv_iload hx hb dX2_readAhead_112 (lv_at hl 0 rfl) ?_
          refine lv_bipush (v := 8) hx hb dX2_readAhead_114 (by decide) ?_
          refine lv_iadd hx hb dX2_readAhead_116 ?_
          obtain ⟨hn14, hf⟩ := ck_of hf
          refine w_iald X hP (c0 := 22) (i0 := j0) hj0 (n := 660) rfl hn14 dX2_readAhead_117 ?_
          refine lv_iadd hx hb dX2_readAhead_118 ?_
          refine lv_topi (fun x15 ex => ?_)
          replace hf := nm_of hf ex
          clear ex
          refine lv_istore_n (lv' := [(3, .int x15), (5, .int x4), (0, .ref (la 3 j0)), (1, .ref (la 4 0)), (2, .int a2), (4, .int a4)]) hx hb dX2_readAhead_119 rfl hl (by decide) rfl (fun ls hl => ?_)
          obtain ⟨x16, ex⟩ : ∃ y : Int32, y = (a4 + (1 : Int32)) := ⟨_, rfl⟩
          replace hf := nm_of hf ex
          refine lv_iinc (v := x16) (lv' := [(4, .int x16), (3, .int x15), (5, .int x4), (0, .ref (la 3 j0)), (1, .ref (la 4 0)), (2, .int a2)]) hx hb dX2_readAhead_120 hl (k := 5) rfl (by rw [ex]; rfl) (by decide) rfl (fun ls hl => ?_)
          clear ex
          refine lv_goto (tgt := 15) hx hb dX2_readAhead_123 (by decide) ?_
          exact ih _ _ _ _ _ _ _ _ hj0 hf hP hS (lv_sub hl [3, 4, 5, 1, 0] rfl)
        · replace hf := (if_pos c13).symm.trans hf
          refine lv_aload_n hx hb dX2_readAhead_76 rfl (lv_at hl 1 rfl) ?_
          refine lv_iload hx hb dX2_readAhead_77 (lv_at hl 5 rfl) ?_
          refine lv_iconst (v := 1) hx hb dX2_readAhead_79 (by decide) ?_
          refine lv_iadd hx hb dX2_readAhead_80 ?_
          refine pC_Made_size X hP hS hj0 fl_X2_21 dX2_readAhead_81 (fun H locs hP hS => ?_)
          obtain ⟨st17, hP, hf⟩ := nm_gen (P := fun z => HW D (VC mo) la (ECf cyI cyF cyM mo la) z H) hP hf
          refine lv_aload_n hx hb dX2_readAhead_84 rfl (lv_at hl 1 rfl) ?_
          refine lv_iload_n hx hb dX2_readAhead_85 rfl (lv_at hl 3 rfl) ?_
          refine lv_bipush (v := 64) hx hb dX2_readAhead_86 (by decide) ?_
          refine lv_idiv hx hb dX2_readAhead_88 (by decide) ?_
          refine pC_Made_firstPage X hP hS hj0 fl_X2_35 dX2_readAhead_89 (fun H locs hP hS => ?_)
          obtain ⟨st18, hP, hf⟩ := nm_gen (P := fun z => HW D (VC mo) la (ECf cyI cyF cyM mo la) z H) hP hf
          refine lv_aload_n hx hb dX2_readAhead_92 rfl (lv_at hl 1 rfl) ?_
          refine lv_iload_n hx hb dX2_readAhead_93 rfl (lv_at hl 3 rfl) ?_
          refine lv_iload_n hx hb dX2_readAhead_94 rfl (lv_at hl 4 rfl) ?_
          refine lv_iadd hx hb dX2_readAhead_95 ?_
          refine lv_bipush (v := 64) hx hb dX2_readAhead_96 (by decide) ?_
          refine lv_idiv hx hb dX2_readAhead_98 (by decide) ?_
          refine pC_Made_lastPage X hP hS hj0 fl_X2_38 dX2_readAhead_99 (fun H locs hP hS => ?_)
          obtain ⟨st19, hP, hf⟩ := nm_gen (P := fun z => HW D (VC mo) la (ECf cyI cyF cyM mo la) z H) hP hf
          refine lv_aload_n hx hb dX2_readAhead_102 rfl (lv_at hl 1 rfl) ?_
          obtain ⟨v22, st20, hr21, hf⟩ := bd_2 hf
          refine w_V1 X (TX2_linkTargets l hj0 hr21) hP hS rfl KX2_linkTargets ml_X2_41 ⟨rfl, rfl⟩ ⟨by decide, by decide⟩ (x_recv (E := fun c i => (ECf cyI cyF cyM mo la) (st19.1 c i) st19.2 c i) (c0 := 3) (i0 := j0) X.2.2.1 hP hj0 (ci := 3) rfl rfl) rfl hl.1 (Nat.le_of_ble_eq_true rfl) dX2_readAhead_103 (fun H locs hP hS => ?_)
          obtain ⟨rfl, rfl⟩ := sp_2 hf
          exact w_iret X hr hlk hP hS dX2_readAhead_106
      · replace hf := (if_neg c9).symm.trans hf
        refine lv_iload_n hx hb dX2_readAhead_51 rfl (lv_at hl 4 rfl) ?_
        obtain ⟨rfl, rfl⟩ := sp_2 hf
        exact w_iret X hr hlk hP hS dX2_readAhead_52
def fX2_readAhead (N mo : Nat) (j0 : Nat) (a2 : Int32) (st : xSt) : Option (Int32 × xSt) := nm (pI st 3 j0 2 a2) (fun st1 => nm (pI st1 3 j0 1 (0 : Int32)) (fun st2 => fX2_readAhead_b15 N mo N j0 a2 (1 : Int32) (0 : Int32) st2))
set_option maxHeartbeats 4000000 in
set_option maxRecDepth 100000 in
theorem TX2_readAhead (l : Launch) {D : va_G} {la : Nat → Nat → Nat} {cyI cyF cyM : ClassId} {t0 mo N : Nat} {j0 : Nat} {a2 : Int32} (hj0 : VC mo 3 j0) {st : xSt} {r : Int32} {st' : xSt} (hf : fX2_readAhead N mo j0 a2 st = some (r, st')) : MetC D cyI cyF cyM mo la t0 l yX2_readAhead (Cond.code yX2_readAhead cX2_readAhead 6 (some .int) :: xALL) rm_X2_readAhead [.ref (la 3 j0), .ref (la 4 0), .int a2] (some (.int r)) st st' := by
  refine MetW.intro (own := RX2) (by decide) (Nat.le_of_ble_eq_true rfl) rfl ?_
  intro p e s m below meth c X hr hlk hP ls hl
  have hx := X.1.1
  have hb := X.1.2.1
  have hS : va_S (xA (VC mo) la) s.heap s.heap [] := va_S.rf
  unfold fX2_readAhead at hf
  replace hl : lv_has ls 6 [(0, .ref (la 3 j0)), (1, .ref (la 4 0)), (2, .int a2)] := hl
  refine lv_aload_n hx hb dX2_readAhead_0 rfl (lv_at hl 0 rfl) ?_
  refine lv_iload_n hx hb dX2_readAhead_1 rfl (lv_at hl 2 rfl) ?_
  refine pC_Made_address X hP hS hj0 fl_X2_17 dX2_readAhead_2 (fun H locs hP hS => ?_)
  obtain ⟨st1, hP, hf⟩ := nm_gen (P := fun z => HW D (VC mo) la (ECf cyI cyF cyM mo la) z H) hP hf
  refine lv_aload_n hx hb dX2_readAhead_5 rfl (lv_at hl 0 rfl) ?_
  refine lv_iconst (v := 0) hx hb dX2_readAhead_6 (by decide) ?_
  refine pC_Made_size X hP hS hj0 fl_X2_21 dX2_readAhead_7 (fun H locs hP hS => ?_)
  obtain ⟨st2, hP, hf⟩ := nm_gen (P := fun z => HW D (VC mo) la (ECf cyI cyF cyM mo la) z H) hP hf
  refine lv_iconst (v := 1) hx hb dX2_readAhead_10 (by decide) ?_
  refine lv_istore_n (lv' := [(3, .int (1 : Int32)), (0, .ref (la 3 j0)), (1, .ref (la 4 0)), (2, .int a2)]) hx hb dX2_readAhead_11 rfl hl (by decide) rfl (fun ls hl => ?_)
  refine lv_iconst (v := 0) hx hb dX2_readAhead_12 (by decide) ?_
  refine lv_istore (lv' := [(4, .int (0 : Int32)), (3, .int (1 : Int32)), (0, .ref (la 3 j0)), (1, .ref (la 4 0)), (2, .int a2)]) hx hb dX2_readAhead_13 hl (by decide) rfl (fun ls hl => ?_)
  exact BX2_readAhead_15 X hr hlk N _ _ _ _ _ _ _ _ hj0 hf hP hS (lv_sub hl [2, 3, 4, 1, 0] rfl)
theorem KX2_readAhead : xKv yX2_readAhead cX2_readAhead 6 (some .int) RX2 2 := ⟨cd_X2_readAhead, im_X2_readAhead, se_X2_readAhead, in_X2, by decide +kernel⟩
