abbrev rm_X6_fetch : Room := { frames := 3, cells := 0, slots := 0, locals := 70 }
def fX6_fetch_b117 (N mo : Nat) (j1 : Nat) (st : xSt) : Option (Int32 × xSt) := if ((st.1 6 0 13) + (8 : Int32)) < 0 ∨ (rwN (st.2 2 0)) ≤ (((st.1 6 0 13) + (8 : Int32))).toNatClampNeg then none else nm (st.1 (rwC (st.2 2 0)) (rwI mo (st.2 2 0)) (((st.1 6 0 13) + (8 : Int32))).toNatClampNeg) (fun x24 => nm (pI st 2 j1 3 ((st.1 2 j1 3) + x24)) (fun st25 => nm (pI st25 2 j1 5 ((st25.1 2 j1 5) + (1 : Int32))) (fun st26 => some ((1 : Int32), st26))))
set_option maxHeartbeats 4000000 in
set_option maxRecDepth 100000 in
theorem BX6_fetch_117 {p : Program} {l : Launch} {e : Env} {s : State} {m : MethodId} {args : Array Value} {below : List Frame} {meth : Method} {c : Code} {D : va_G} {la : Nat → Nat → Nat} {cyI cyF cyM : ClassId} {t0 mo N : Nat} {r : Int32} {st' : xSt} (X : xCx D (VC mo) la cyI cyF cyM t0 p m c cX6_fetch 3 s args RX6) (hr : meth.sig.returnType = (some .boolean)) (hlk : meth.locks = false) : ∀ (j1 : Nat) (st : xSt) (H : Heap) (locs : List Loc) (ls : Array Slot), VC mo 2 j1 → fX6_fetch_b117 N mo j1 st = some (r, st') → HW D (VC mo) la (ECf cyI cyF cyM mo la) st H → va_S (xA (VC mo) la) s.heap H locs → lv_has ls 3 [(0, .ref (la 6 0)), (1, .ref (la 2 j1))] → W p l e rm_X6_fetch s m args below meth c H locs 0 0 (MQ below (xQc D (VC mo) la (ECf cyI cyF cyM mo la) (some (.int r)) st') args s 0 0 (xA (VC mo) la)) (F0 m 117 ls []) := by
  have hx := X.1.1
  have hb := X.1.2.1
  intro j1 st H locs ls hj1 hf hP hS hl
  unfold fX6_fetch_b117 at hf
  refine lv_aload_n hx hb dX6_fetch_117 rfl (lv_at hl 1 rfl) ?_
  refine lv_dup hx hb dX6_fetch_118 rfl ?_
  refine gC_Frame_next X hP hj1 fl_X6_151 dX6_fetch_119 ?_
  refine lv_aload_n hx hb dX6_fetch_122 rfl (lv_at hl 0 rfl) ?_
  refine gC_Runner_rows X hP fl_X6_36 dX6_fetch_123 ?_
  refine lv_aload_n hx hb dX6_fetch_126 rfl (lv_at hl 0 rfl) ?_
  refine gC_Runner_base X hP fl_X6_163 dX6_fetch_127 ?_
  refine lv_bipush (v := 8) hx hb dX6_fetch_130 (by decide) ?_
  refine lv_iadd hx hb dX6_fetch_132 ?_
  obtain ⟨hn23, hf⟩ := ck_of hf
  refine w_iald X hP (c0 := (rwC (st.2 2 0))) (i0 := (rwI mo (st.2 2 0))) (VC_rw mo _) (n := (rwN (st.2 2 0))) (ECf_rw _ _ _) hn23 dX6_fetch_133 ?_
  refine lv_topi (fun x24 ex => ?_)
  replace hf := nm_of hf ex
  clear ex
  refine lv_iadd hx hb dX6_fetch_134 ?_
  refine pC_Frame_next X hP hS hj1 fl_X6_151 dX6_fetch_135 (fun H locs hP hS => ?_)
  obtain ⟨st25, hP, hf⟩ := nm_gen (P := fun z => HW D (VC mo) la (ECf cyI cyF cyM mo la) z H) hP hf
  refine lv_aload_n hx hb dX6_fetch_138 rfl (lv_at hl 1 rfl) ?_
  refine lv_dup hx hb dX6_fetch_139 rfl ?_
  refine gC_Frame_nextRow X hP hj1 fl_X6_160 dX6_fetch_140 ?_
  refine lv_iconst (v := 1) hx hb dX6_fetch_143 (by decide) ?_
  refine lv_iadd hx hb dX6_fetch_144 ?_
  refine pC_Frame_nextRow X hP hS hj1 fl_X6_160 dX6_fetch_145 (fun H locs hP hS => ?_)
  obtain ⟨st26, hP, hf⟩ := nm_gen (P := fun z => HW D (VC mo) la (ECf cyI cyF cyM mo la) z H) hP hf
  refine lv_iconst (v := 1) hx hb dX6_fetch_148 (by decide) ?_
  obtain ⟨rfl, rfl⟩ := sp_2 hf
  exact w_zret X hr hlk (by decide) hP hS dX6_fetch_149
def fX6_fetch (N mo : Nat) (j1 : Nat) (st : xSt) : Option (Int32 × xSt) := nm (pI st 6 0 14 (st.1 2 j1 2)) (fun st1 => nm (pI st1 6 0 15 (st1.1 2 j1 3)) (fun st2 => bd (fX6_spendStep N mo st2) (fun v5 st3 => if v5 = (0 : Int32) then some ((0 : Int32), st3) else bd (fX1_goesByMade N mo j1 st3) (fun v9 st7 => if v9 = (0 : Int32) then nm (pQ st7 2 0 0) (fun st11 => nm (pI st11 6 0 13 (0 : Int32)) (fun st12 => bd (fX3_read N mo ((st12.1 2 j1 2) + (st12.1 2 j1 3)) (st12.1 2 j1 1) 0 (0 : Int32) st12) (fun v15 st13 => if v15 = (0 : Int32) then fX6_fetch_b117 N mo j1 st13 else Option.bind (fX6_fail N mo v15 st13) (fun st17 => some ((0 : Int32), st17))))) else nm (pI st7 20 0 3 ((st7.1 20 0 3) + (1 : Int32))) (fun st19 => if (st19.2 1 j1) = 0 then none else nm (pQ st19 2 0 ((min ((st19.2 1 j1) - 1) mo) + 1)) (fun st21 => nm (pI st21 6 0 13 ((st21.1 2 j1 5) * (11 : Int32))) (fun st22 => fX6_fetch_b117 N mo j1 st22)))))))
set_option maxHeartbeats 4000000 in
set_option maxRecDepth 100000 in
theorem TX6_fetch (l : Launch) {D : va_G} {la : Nat → Nat → Nat} {cyI cyF cyM : ClassId} {t0 mo N : Nat} {j1 : Nat} (hj1 : VC mo 2 j1) {st : xSt} {r : Int32} {st' : xSt} (hf : fX6_fetch N mo j1 st = some (r, st')) : MetC D cyI cyF cyM mo la t0 l yX6_fetch (Cond.code yX6_fetch cX6_fetch 3 (some .boolean) :: xALL) rm_X6_fetch [.ref (la 6 0), .ref (la 2 j1)] (some (.int r)) st st' := by
  refine MetW.intro (own := RX6) (by decide) (Nat.le_of_ble_eq_true rfl) rfl ?_
  intro p e s m below meth c X hr hlk hP ls hl
  have hx := X.1.1
  have hb := X.1.2.1
  have hS : va_S (xA (VC mo) la) s.heap s.heap [] := va_S.rf
  unfold fX6_fetch at hf
  replace hl : lv_has ls 3 [(0, .ref (la 6 0)), (1, .ref (la 2 j1))] := hl
  refine lv_aload_n hx hb dX6_fetch_0 rfl (lv_at hl 0 rfl) ?_
  refine lv_aload_n hx hb dX6_fetch_1 rfl (lv_at hl 1 rfl) ?_
  refine gC_Frame_address X hP hj1 fl_X6_148 dX6_fetch_2 ?_
  refine pC_Runner_atAddress X hP hS fl_X6_68 dX6_fetch_5 (fun H locs hP hS => ?_)
  obtain ⟨st1, hP, hf⟩ := nm_gen (P := fun z => HW D (VC mo) la (ECf cyI cyF cyM mo la) z H) hP hf
  refine lv_aload_n hx hb dX6_fetch_8 rfl (lv_at hl 0 rfl) ?_
  refine lv_aload_n hx hb dX6_fetch_9 rfl (lv_at hl 1 rfl) ?_
  refine gC_Frame_next X hP hj1 fl_X6_151 dX6_fetch_10 ?_
  refine pC_Runner_atOffset X hP hS fl_X6_71 dX6_fetch_13 (fun H locs hP hS => ?_)
  obtain ⟨st2, hP, hf⟩ := nm_gen (P := fun z => HW D (VC mo) la (ECf cyI cyF cyM mo la) z H) hP hf
  refine lv_aload_n hx hb dX6_fetch_16 rfl (lv_at hl 0 rfl) ?_
  obtain ⟨v5, st3, hr4, hf⟩ := bd_2 hf
  refine w_V1 X (TX6_spendStep l hr4) hP hS rfl KX6_spendStep ml_X6_123 ⟨rfl, rfl⟩ ⟨by decide, by decide⟩ (x_recv (E := fun c i => (ECf cyI cyF cyM mo la) (st2.1 c i) st2.2 c i) (c0 := 6) (i0 := 0) X.2.2.1 hP rfl (ci := 6) rfl rfl) rfl hl.1 (Nat.le_of_ble_eq_true rfl) dX6_fetch_17 (fun H locs hP hS => ?_)
  refine lv_if_ne (tgt := 25) hx hb dX6_fetch_20 (by decide) (fun c6 => ?_) (fun c6 => ?_)
  · replace hf := (if_neg c6).symm.trans hf
    refine lv_aload_n hx hb dX6_fetch_25 rfl (lv_at hl 1 rfl) ?_
    obtain ⟨v9, st7, hr8, hf⟩ := bd_2 hf
    refine w_V1 X (TX1_goesByMade l hj1 hr8) hP hS rfl KX1_goesByMade ml_X6_154 ⟨rfl, rfl⟩ ⟨by decide, by decide⟩ (x_recv (E := fun c i => (ECf cyI cyF cyM mo la) (st3.1 c i) st3.2 c i) (c0 := 2) (i0 := j1) X.2.2.1 hP hj1 (ci := 2) rfl rfl) rfl hl.1 (Nat.le_of_ble_eq_true rfl) dX6_fetch_26 (fun H locs hP hS => ?_)
    refine lv_if_eq (tgt := 67) hx hb dX6_fetch_29 (by decide) (fun c10 => ?_) (fun c10 => ?_)
    · replace hf := (if_pos c10).symm.trans hf
      refine lv_aload_n hx hb dX6_fetch_67 rfl (lv_at hl 0 rfl) ?_
      refine lv_aload_n hx hb dX6_fetch_68 rfl (lv_at hl 0 rfl) ?_
      refine gC_Runner_walked X hP fl_X6_33 dX6_fetch_69 ?_
      refine w_top (rw_0 (mo := mo)) ?_
      refine pC_Runner_rows X hP hS (k := 0) fl_X6_36 dX6_fetch_72 (fun H locs hP hS => ?_)
      obtain ⟨st11, hP, hf⟩ := nm_gen (P := fun z => HW D (VC mo) la (ECf cyI cyF cyM mo la) z H) hP hf
      refine lv_aload_n hx hb dX6_fetch_75 rfl (lv_at hl 0 rfl) ?_
      refine lv_iconst (v := 0) hx hb dX6_fetch_76 (by decide) ?_
      refine pC_Runner_base X hP hS fl_X6_163 dX6_fetch_77 (fun H locs hP hS => ?_)
      obtain ⟨st12, hP, hf⟩ := nm_gen (P := fun z => HW D (VC mo) la (ECf cyI cyF cyM mo la) z H) hP hf
      refine lv_aload_n hx hb dX6_fetch_80 rfl (lv_at hl 0 rfl) ?_
      refine gC_Runner_memory X hP fl_X6_39 dX6_fetch_81 ?_
      refine lv_aload_n hx hb dX6_fetch_84 rfl (lv_at hl 1 rfl) ?_
      refine gC_Frame_address X hP hj1 fl_X6_148 dX6_fetch_85 ?_
      refine lv_aload_n hx hb dX6_fetch_88 rfl (lv_at hl 1 rfl) ?_
      refine gC_Frame_next X hP hj1 fl_X6_151 dX6_fetch_89 ?_
      refine lv_iadd hx hb dX6_fetch_92 ?_
      refine lv_aload_n hx hb dX6_fetch_93 rfl (lv_at hl 1 rfl) ?_
      refine gC_Frame_has X hP hj1 fl_X6_166 dX6_fetch_94 ?_
      refine lv_aload_n hx hb dX6_fetch_97 rfl (lv_at hl 0 rfl) ?_
      refine gC_Runner_walked X hP fl_X6_33 dX6_fetch_98 ?_
      refine lv_iconst (v := 0) hx hb dX6_fetch_101 (by decide) ?_
      refine w_stk (st1 := .int (0 : Int32) :: .ref (la (rwC 0) (rwI mo 0)) :: .int (st12.1 2 j1 1) :: .int ((st12.1 2 j1 2) + (st12.1 2 j1 3)) :: .ref (la 4 0) :: _) (by rw [rw_0 (mo := mo)]) ?_
      obtain ⟨v15, st13, hr14, hf⟩ := bd_2 hf
      refine w_V1 X (TX3_read l hr14) hP hS rfl KX3_read ml_X6_169 ⟨rfl, rfl⟩ ⟨by decide, by decide⟩ (x_recv (E := fun c i => (ECf cyI cyF cyM mo la) (st12.1 c i) st12.2 c i) (c0 := 4) (i0 := 0) X.2.2.1 hP rfl (ci := 4) rfl rfl) rfl hl.1 (Nat.le_of_ble_eq_true rfl) dX6_fetch_102 (fun H locs hP hS => ?_)
      refine lv_istore_n (lv' := [(2, .int v15), (0, .ref (la 6 0)), (1, .ref (la 2 j1))]) hx hb dX6_fetch_105 rfl hl (by decide) rfl (fun ls hl => ?_)
      refine lv_iload_n hx hb dX6_fetch_106 rfl (lv_at hl 0 rfl) ?_
      refine lv_if_eq (tgt := 117) hx hb dX6_fetch_107 (by decide) (fun c16 => ?_) (fun c16 => ?_)
      · replace hf := (if_pos c16).symm.trans hf
        exact BX6_fetch_117 X hr hlk _ _ _ _ _ hj1 hf hP hS (lv_sub hl [1, 2] rfl)
      · replace hf := (if_neg c16).symm.trans hf
        refine lv_aload_n hx hb dX6_fetch_110 rfl (lv_at hl 1 rfl) ?_
        refine lv_iload_n hx hb dX6_fetch_111 rfl (lv_at hl 0 rfl) ?_
        obtain ⟨st17, hr18, hf⟩ := bd_of hf
        refine w_V0 X (TX6_fail l hr18) hP hS rfl KX6_fail ml_X6_97 ⟨rfl, rfl⟩ ⟨by decide, by decide⟩ (x_recv (E := fun c i => (ECf cyI cyF cyM mo la) (st13.1 c i) st13.2 c i) (c0 := 6) (i0 := 0) X.2.2.1 hP rfl (ci := 6) rfl rfl) rfl hl.1 (Nat.le_of_ble_eq_true rfl) dX6_fetch_112 (fun H locs hP hS => ?_)
        refine lv_iconst (v := 0) hx hb dX6_fetch_115 (by decide) ?_
        obtain ⟨rfl, rfl⟩ := sp_2 hf
        exact w_zret X hr hlk (by decide) hP hS dX6_fetch_116
    · replace hf := (if_neg c10).symm.trans hf
      refine lv_aload_n hx hb dX6_fetch_32 rfl (lv_at hl 0 rfl) ?_
      refine gC_Runner_counts X hP fl_X6_50 dX6_fetch_33 ?_
      refine lv_iconst (v := 3) hx hb dX6_fetch_36 (by decide) ?_
      refine lv_dup2_11 hx hb dX6_fetch_37 rfl rfl ?_
      refine w_ialdK X hP (c0 := 20) (i0 := 0) (show 0 < 7 by decide) (n := 8) (fun _ => rfl) 3 (by decide) (show ¬ ((3 : Int32) < 0 ∨ 8 ≤ ((3 : Int32)).toNatClampNeg) by decide) dX6_fetch_38 ?_
      refine lv_iconst (v := 1) hx hb dX6_fetch_39 (by decide) ?_
      refine lv_iadd hx hb dX6_fetch_40 ?_
      refine w_iastK X hP hS (c0 := 20) (i0 := 0) (show 0 < 7 by decide) (n := 8) (fun _ => rfl) 3 (by decide) (show ¬ ((3 : Int32) < 0 ∨ 8 ≤ ((3 : Int32)).toNatClampNeg) by decide) dX6_fetch_41 (fun H locs hP hS => ?_)
      obtain ⟨st19, hP, hf⟩ := nm_gen (P := fun z => HW D (VC mo) la (ECf cyI cyF cyM mo la) z H) hP hf
      refine lv_aload_n hx hb dX6_fetch_42 rfl (lv_at hl 0 rfl) ?_
      refine lv_aload_n hx hb dX6_fetch_43 rfl (lv_at hl 1 rfl) ?_
      refine gC_Frame_made X hP hj1 fl_X6_119 dX6_fetch_44 ?_
      obtain ⟨hz20, hf⟩ := ck_of hf
      refine w_top (mrf_p hz20) ?_
      refine gC_Made_rows X hP (VC_m mo _) fl_X6_157 dX6_fetch_47 ?_
      refine w_top (rw_s (VC_m mo _)) ?_
      refine pC_Runner_rows X hP hS (k := ((min ((st19.2 1 j1) - 1) mo) + 1)) fl_X6_36 dX6_fetch_50 (fun H locs hP hS => ?_)
      obtain ⟨st21, hP, hf⟩ := nm_gen (P := fun z => HW D (VC mo) la (ECf cyI cyF cyM mo la) z H) hP hf
      refine lv_aload_n hx hb dX6_fetch_53 rfl (lv_at hl 0 rfl) ?_
      refine lv_aload_n hx hb dX6_fetch_54 rfl (lv_at hl 1 rfl) ?_
      refine gC_Frame_nextRow X hP hj1 fl_X6_160 dX6_fetch_55 ?_
      refine lv_bipush (v := 11) hx hb dX6_fetch_58 (by decide) ?_
      refine lv_imul hx hb dX6_fetch_60 ?_
      refine pC_Runner_base X hP hS fl_X6_163 dX6_fetch_61 (fun H locs hP hS => ?_)
      obtain ⟨st22, hP, hf⟩ := nm_gen (P := fun z => HW D (VC mo) la (ECf cyI cyF cyM mo la) z H) hP hf
      refine lv_goto (tgt := 117) hx hb dX6_fetch_64 (by decide) ?_
      exact BX6_fetch_117 X hr hlk _ _ _ _ _ hj1 hf hP hS (lv_sub hl [0, 1] rfl)
  · replace hf := (if_pos c6).symm.trans hf
    refine lv_iconst (v := 0) hx hb dX6_fetch_23 (by decide) ?_
    obtain ⟨rfl, rfl⟩ := sp_2 hf
    exact w_zret X hr hlk (by decide) hP hS dX6_fetch_24
theorem KX6_fetch : xKv yX6_fetch cX6_fetch 3 (some .boolean) RX6 1 := ⟨cd_X6_fetch, im_X6_fetch, se_X6_fetch, in_X6, by decide +kernel⟩
abbrev rm_X6_valueOf : Room := { frames := 1, cells := 0, slots := 0, locals := 20 }
def fX6_valueOf (N mo : Nat) (j1 : Nat) (a2 : Int32) (st : xSt) : Option (Int32 × xSt) := if (128 : Int32) ≤ a2 then if (136 : Int32) ≤ a2 then bd (fX6_indexOfCell N mo a2 st) (fun v5 st3 => if v5 < 0 ∨ 8 ≤ (v5).toNatClampNeg then none else some ((st3.1 20 1 (v5).toNatClampNeg), st3)) else bd (fX6_indexOfCell N mo a2 st) (fun v9 st7 => if v9 < 0 ∨ 8 ≤ (v9).toNatClampNeg then none else some ((st7.1 21 j1 (v9).toNatClampNeg), st7)) else some (a2, st)
set_option maxHeartbeats 4000000 in
set_option maxRecDepth 100000 in
theorem TX6_valueOf (l : Launch) {D : va_G} {la : Nat → Nat → Nat} {cyI cyF cyM : ClassId} {t0 mo N : Nat} {j1 : Nat} {a2 : Int32} (hj1 : VC mo 2 j1) {st : xSt} {r : Int32} {st' : xSt} (hf : fX6_valueOf N mo j1 a2 st = some (r, st')) : MetC D cyI cyF cyM mo la t0 l yX6_valueOf (Cond.code yX6_valueOf cX6_valueOf 3 (some .int) :: xALL) rm_X6_valueOf [.ref (la 6 0), .ref (la 2 j1), .int a2] (some (.int r)) st st' := by
  refine MetW.intro (own := RX6) (by decide) (Nat.le_of_ble_eq_true rfl) rfl ?_
  intro p e s m below meth c X hr hlk hP ls hl
  have hx := X.1.1
  have hb := X.1.2.1
  have hS : va_S (xA (VC mo) la) s.heap s.heap [] := va_S.rf
  unfold fX6_valueOf at hf
  replace hl : lv_has ls 3 [(0, .ref (la 6 0)), (1, .ref (la 2 j1)), (2, .int a2)] := hl
  refine lv_iload_n hx hb dX6_valueOf_0 rfl (lv_at hl 2 rfl) ?_
  refine lv_sipush (v := 128) hx hb dX6_valueOf_1 (by decide) ?_
  refine lv_icmp_ge (tgt := 9) hx hb dX6_valueOf_4 (by decide) (fun c1 => ?_) (fun c1 => ?_)
  · replace hf := (if_pos c1).symm.trans hf
    refine lv_iload_n hx hb dX6_valueOf_9 rfl (lv_at hl 2 rfl) ?_
    refine lv_sipush (v := 136) hx hb dX6_valueOf_10 (by decide) ?_
    refine lv_icmp_ge (tgt := 28) hx hb dX6_valueOf_13 (by decide) (fun c2 => ?_) (fun c2 => ?_)
    · replace hf := (if_pos c2).symm.trans hf
      refine lv_aload_n hx hb dX6_valueOf_28 rfl (lv_at hl 0 rfl) ?_
      refine gC_Runner_globals X hP fl_X6_47 dX6_valueOf_29 ?_
      refine lv_iload_n hx hb dX6_valueOf_32 rfl (lv_at hl 2 rfl) ?_
      obtain ⟨v5, st3, hr4, hf⟩ := bd_2 hf
      refine w_S1 X (TX6_indexOfCell l hr4) hP hS rfl KX6_indexOfCell ml_X6_233 ⟨rfl, rfl⟩ ⟨by decide, by decide⟩ rfl hl.1 (Nat.le_of_ble_eq_true rfl) dX6_valueOf_33 (fun H locs hP hS => ?_)
      obtain ⟨hn6, hf⟩ := ck_of hf
      refine w_iald X hP (c0 := 20) (i0 := 1) (show 1 < 7 by decide) (n := 8) rfl hn6 dX6_valueOf_36 ?_
      obtain ⟨rfl, rfl⟩ := sp_2 hf
      exact w_iret X hr hlk hP hS dX6_valueOf_37
    · replace hf := (if_neg c2).symm.trans hf
      refine lv_aload_n hx hb dX6_valueOf_16 rfl (lv_at hl 1 rfl) ?_
      refine gC_Frame_locals X hP hj1 fl_X6_230 dX6_valueOf_17 ?_
      refine lv_iload_n hx hb dX6_valueOf_20 rfl (lv_at hl 2 rfl) ?_
      obtain ⟨v9, st7, hr8, hf⟩ := bd_2 hf
      refine w_S1 X (TX6_indexOfCell l hr8) hP hS rfl KX6_indexOfCell ml_X6_233 ⟨rfl, rfl⟩ ⟨by decide, by decide⟩ rfl hl.1 (Nat.le_of_ble_eq_true rfl) dX6_valueOf_21 (fun H locs hP hS => ?_)
      obtain ⟨hn10, hf⟩ := ck_of hf
      refine w_iald X hP (c0 := 21) (i0 := j1) hj1 (n := 8) rfl hn10 dX6_valueOf_24 ?_
      refine lv_goto (tgt := 37) hx hb dX6_valueOf_25 (by decide) ?_
      obtain ⟨rfl, rfl⟩ := sp_2 hf
      exact w_iret X hr hlk hP hS dX6_valueOf_37
  · replace hf := (if_neg c1).symm.trans hf
    refine lv_iload_n hx hb dX6_valueOf_7 rfl (lv_at hl 2 rfl) ?_
    obtain ⟨rfl, rfl⟩ := sp_2 hf
    exact w_iret X hr hlk hP hS dX6_valueOf_8
theorem KX6_valueOf : xKv yX6_valueOf cX6_valueOf 3 (some .int) RX6 2 := ⟨cd_X6_valueOf, im_X6_valueOf, se_X6_valueOf, in_X6, by decide +kernel⟩
abbrev rm_X6_leave : Room := { frames := 3, cells := 0, slots := 0, locals := 65 }
def fX6_leave (N mo : Nat) (a1 : Int32) (st : xSt) : Option xSt := nm (pI st 6 0 10 ((st.1 6 0 10) - (1 : Int32))) (fun st1 => Option.bind (fX6_give N mo a1 st1) (fun st2 => some st2))
set_option maxHeartbeats 4000000 in
set_option maxRecDepth 100000 in
theorem TX6_leave (l : Launch) {D : va_G} {la : Nat → Nat → Nat} {cyI cyF cyM : ClassId} {t0 mo N : Nat} {a1 : Int32} {st : xSt} {st' : xSt} (hf : fX6_leave N mo a1 st = some st') : MetC D cyI cyF cyM mo la t0 l yX6_leave (Cond.code yX6_leave cX6_leave 2 none :: xALL) rm_X6_leave [.ref (la 6 0), .int a1] none st st' := by
  refine MetW.intro (own := RX6) (by decide) (Nat.le_of_ble_eq_true rfl) rfl ?_
  intro p e s m below meth c X hr hlk hP ls hl
  have hx := X.1.1
  have hb := X.1.2.1
  have hS : va_S (xA (VC mo) la) s.heap s.heap [] := va_S.rf
  unfold fX6_leave at hf
  replace hl : lv_has ls 2 [(0, .ref (la 6 0)), (1, .int a1)] := hl
  refine lv_aload_n hx hb dX6_leave_0 rfl (lv_at hl 0 rfl) ?_
  refine lv_dup hx hb dX6_leave_1 rfl ?_
  refine gC_Runner_depth X hP fl_X6_61 dX6_leave_2 ?_
  refine lv_iconst (v := 1) hx hb dX6_leave_5 (by decide) ?_
  refine lv_isub hx hb dX6_leave_6 ?_
  refine pC_Runner_depth X hP hS fl_X6_61 dX6_leave_7 (fun H locs hP hS => ?_)
  obtain ⟨st1, hP, hf⟩ := nm_gen (P := fun z => HW D (VC mo) la (ECf cyI cyF cyM mo la) z H) hP hf
  refine lv_aload_n hx hb dX6_leave_10 rfl (lv_at hl 0 rfl) ?_
  refine lv_iload_n hx hb dX6_leave_11 rfl (lv_at hl 1 rfl) ?_
  obtain ⟨st2, hr3, hf⟩ := bd_of hf
  refine w_V0 X (TX6_give l hr3) hP hS rfl KX6_give ml_X6_93 ⟨rfl, rfl⟩ ⟨by decide, by decide⟩ (x_recv (E := fun c i => (ECf cyI cyF cyM mo la) (st1.1 c i) st1.2 c i) (c0 := 6) (i0 := 0) X.2.2.1 hP rfl (ci := 6) rfl rfl) rfl hl.1 (Nat.le_of_ble_eq_true rfl) dX6_leave_12 (fun H locs hP hS => ?_)
  obtain rfl := Option.some.inj hf
  exact w_vret X hr hlk hP hS dX6_leave_15
theorem KX6_leave : xKv yX6_leave cX6_leave 2 none RX6 1 := ⟨cd_X6_leave, im_X6_leave, se_X6_leave, in_X6, by decide +kernel⟩
abbrev rm_X6_load : Room := { frames := 2, cells := 0, slots := 0, locals := 43 }
def fX6_load (N mo : Nat) (j1 : Nat) (a2 : Int32) (a3 : Int32) (st : xSt) : Option xSt := bd (fX8_isPlace N mo a3 st) (fun v3 st1 => if v3 = (0 : Int32) then Option.bind (fX6_fail N mo (1 : Int32) st1) (fun st8 => some st8) else if a3 < 0 ∨ 1024 ≤ (a3).toNatClampNeg then none else Option.bind (fX6_set N mo j1 a2 (st1.1 20 3 (a3).toNatClampNeg) st1) (fun st6 => some st6))
set_option maxHeartbeats 4000000 in
set_option maxRecDepth 100000 in
theorem TX6_load (l : Launch) {D : va_G} {la : Nat → Nat → Nat} {cyI cyF cyM : ClassId} {t0 mo N : Nat} {j1 : Nat} {a2 : Int32} {a3 : Int32} (hj1 : VC mo 2 j1) {st : xSt} {st' : xSt} (hf : fX6_load N mo j1 a2 a3 st = some st') : MetC D cyI cyF cyM mo la t0 l yX6_load (Cond.code yX6_load cX6_load 4 none :: xALL) rm_X6_load [.ref (la 6 0), .ref (la 2 j1), .int a2, .int a3] none st st' := by
  refine MetW.intro (own := RX6) (by decide) (Nat.le_of_ble_eq_true rfl) rfl ?_
  intro p e s m below meth c X hr hlk hP ls hl
  have hx := X.1.1
  have hb := X.1.2.1
  have hS : va_S (xA (VC mo) la) s.heap s.heap [] := va_S.rf
  unfold fX6_load at hf
  replace hl : lv_has ls 4 [(0, .ref (la 6 0)), (1, .ref (la 2 j1)), (2, .int a2), (3, .int a3)] := hl
  refine lv_iload_n hx hb dX6_load_0 rfl (lv_at hl 3 rfl) ?_
  obtain ⟨v3, st1, hr2, hf⟩ := bd_2 hf
  refine w_N1 X (TX8_isPlace l hr2) hP hS rfl KX8_isPlace X.2.2.2.2.1 ⟨rfl, rfl⟩ ⟨by decide, by decide⟩ rfl hl.1 (Nat.le_of_ble_eq_true rfl) dX6_load_1 (fun H locs hP hS => ?_)
  refine lv_if_ne (tgt := 13) hx hb dX6_load_4 (by decide) (fun c4 => ?_) (fun c4 => ?_)
  · replace hf := (if_neg c4).symm.trans hf
    refine lv_aload_n hx hb dX6_load_13 rfl (lv_at hl 0 rfl) ?_
    refine lv_aload_n hx hb dX6_load_14 rfl (lv_at hl 1 rfl) ?_
    refine lv_iload_n hx hb dX6_load_15 rfl (lv_at hl 2 rfl) ?_
    refine lv_aload_n hx hb dX6_load_16 rfl (lv_at hl 0 rfl) ?_
    refine gC_Runner_memory X hP fl_X6_39 dX6_load_17 ?_
    refine gC_Memory_bytes X hP fl_X6_106 dX6_load_20 ?_
    refine lv_iload_n hx hb dX6_load_23 rfl (lv_at hl 3 rfl) ?_
    obtain ⟨hn5, hf⟩ := ck_of hf
    refine w_iald X hP (c0 := 20) (i0 := 3) (show 3 < 7 by decide) (n := 1024) rfl hn5 dX6_load_24 ?_
    obtain ⟨st6, hr7, hf⟩ := bd_of hf
    refine w_V0 X (TX6_set l hj1 hr7) hP hS rfl KX6_set ml_X6_180 ⟨rfl, rfl⟩ ⟨by decide, by decide⟩ (x_recv (E := fun c i => (ECf cyI cyF cyM mo la) (st1.1 c i) st1.2 c i) (c0 := 6) (i0 := 0) X.2.2.1 hP rfl (ci := 6) rfl rfl) rfl hl.1 (Nat.le_of_ble_eq_true rfl) dX6_load_25 (fun H locs hP hS => ?_)
    obtain rfl := Option.some.inj hf
    exact w_vret X hr hlk hP hS dX6_load_28
  · replace hf := (if_pos c4).symm.trans hf
    refine lv_aload_n hx hb dX6_load_7 rfl (lv_at hl 0 rfl) ?_
    refine lv_iconst (v := 1) hx hb dX6_load_8 (by decide) ?_
    obtain ⟨st8, hr9, hf⟩ := bd_of hf
    refine w_V0 X (TX6_fail l hr9) hP hS rfl KX6_fail ml_X6_97 ⟨rfl, rfl⟩ ⟨by decide, by decide⟩ (x_recv (E := fun c i => (ECf cyI cyF cyM mo la) (st1.1 c i) st1.2 c i) (c0 := 6) (i0 := 0) X.2.2.1 hP rfl (ci := 6) rfl rfl) rfl hl.1 (Nat.le_of_ble_eq_true rfl) dX6_load_9 (fun H locs hP hS => ?_)
    obtain rfl := Option.some.inj hf
    exact w_vret X hr hlk hP hS dX6_load_12
theorem KX6_load : xKv yX6_load cX6_load 4 none RX6 3 := ⟨cd_X6_load, im_X6_load, se_X6_load, in_X6, by decide +kernel⟩
abbrev rm_X6_store : Room := { frames := 3, cells := 0, slots := 0, locals := 69 }
def fX6_store (N mo : Nat) (a1 : Int32) (a2 : Int32) (st : xSt) : Option xSt := bd (fX8_isPlace N mo a1 st) (fun v3 st1 => if v3 = (0 : Int32) then Option.bind (fX6_fail N mo (1 : Int32) st1) (fun st8 => some st8) else bd (fX3_change N mo a1 a2 st1) (fun v7 st5 => some st5))
set_option maxHeartbeats 4000000 in
set_option maxRecDepth 100000 in
theorem TX6_store (l : Launch) {D : va_G} {la : Nat → Nat → Nat} {cyI cyF cyM : ClassId} {t0 mo N : Nat} {a1 : Int32} {a2 : Int32} {st : xSt} {st' : xSt} (hf : fX6_store N mo a1 a2 st = some st') : MetC D cyI cyF cyM mo la t0 l yX6_store (Cond.code yX6_store cX6_store 3 none :: xALL) rm_X6_store [.ref (la 6 0), .int a1, .int a2] none st st' := by
  refine MetW.intro (own := RX6) (by decide) (Nat.le_of_ble_eq_true rfl) rfl ?_
  intro p e s m below meth c X hr hlk hP ls hl
  have hx := X.1.1
  have hb := X.1.2.1
  have hS : va_S (xA (VC mo) la) s.heap s.heap [] := va_S.rf
  unfold fX6_store at hf
  replace hl : lv_has ls 3 [(0, .ref (la 6 0)), (1, .int a1), (2, .int a2)] := hl
  refine lv_iload_n hx hb dX6_store_0 rfl (lv_at hl 1 rfl) ?_
  obtain ⟨v3, st1, hr2, hf⟩ := bd_2 hf
  refine w_N1 X (TX8_isPlace l hr2) hP hS rfl KX8_isPlace X.2.2.2.2.1 ⟨rfl, rfl⟩ ⟨by decide, by decide⟩ rfl hl.1 (Nat.le_of_ble_eq_true rfl) dX6_store_1 (fun H locs hP hS => ?_)
  refine lv_if_ne (tgt := 13) hx hb dX6_store_4 (by decide) (fun c4 => ?_) (fun c4 => ?_)
  · replace hf := (if_neg c4).symm.trans hf
    refine lv_aload_n hx hb dX6_store_13 rfl (lv_at hl 0 rfl) ?_
    refine gC_Runner_memory X hP fl_X6_39 dX6_store_14 ?_
    refine lv_iload_n hx hb dX6_store_17 rfl (lv_at hl 1 rfl) ?_
    refine lv_iload_n hx hb dX6_store_18 rfl (lv_at hl 2 rfl) ?_
    obtain ⟨v7, st5, hr6, hf⟩ := bd_2 hf
    refine w_V1 X (TX3_change l hr6) hP hS rfl KX3_change ml_X6_214 ⟨rfl, rfl⟩ ⟨by decide, by decide⟩ (x_recv (E := fun c i => (ECf cyI cyF cyM mo la) (st1.1 c i) st1.2 c i) (c0 := 4) (i0 := 0) X.2.2.1 hP rfl (ci := 4) rfl rfl) rfl hl.1 (Nat.le_of_ble_eq_true rfl) dX6_store_19 (fun H locs hP hS => ?_)
    refine lv_pop hx hb dX6_store_22 rfl ?_
    obtain rfl := Option.some.inj hf
    exact w_vret X hr hlk hP hS dX6_store_23
  · replace hf := (if_pos c4).symm.trans hf
    refine lv_aload_n hx hb dX6_store_7 rfl (lv_at hl 0 rfl) ?_
    refine lv_iconst (v := 1) hx hb dX6_store_8 (by decide) ?_
    obtain ⟨st8, hr9, hf⟩ := bd_of hf
    refine w_V0 X (TX6_fail l hr9) hP hS rfl KX6_fail ml_X6_97 ⟨rfl, rfl⟩ ⟨by decide, by decide⟩ (x_recv (E := fun c i => (ECf cyI cyF cyM mo la) (st1.1 c i) st1.2 c i) (c0 := 6) (i0 := 0) X.2.2.1 hP rfl (ci := 6) rfl rfl) rfl hl.1 (Nat.le_of_ble_eq_true rfl) dX6_store_9 (fun H locs hP hS => ?_)
    obtain rfl := Option.some.inj hf
    exact w_vret X hr hlk hP hS dX6_store_12
theorem KX6_store : xKv yX6_store cX6_store 3 none RX6 2 := ⟨cd_X6_store, im_X6_store, se_X6_store, in_X6, by decide +kernel⟩
abbrev rm_X6_jump : Room := { frames := 0, cells := 0, slots := 0, locals := 0 }
def fX6_jump (N mo : Nat) (j1 : Nat) (a2 : Int32) (st : xSt) : Option xSt := nm (pI st 2 j1 3 a2) (fun st1 => if ((st1.1 6 0 13) + (10 : Int32)) < 0 ∨ (rwN (st1.2 2 0)) ≤ (((st1.1 6 0 13) + (10 : Int32))).toNatClampNeg then none else nm (st1.1 (rwC (st1.2 2 0)) (rwI mo (st1.2 2 0)) (((st1.1 6 0 13) + (10 : Int32))).toNatClampNeg) (fun x3 => nm (pI st1 2 j1 5 x3) (fun st4 => some st4)))
set_option maxHeartbeats 4000000 in
set_option maxRecDepth 100000 in
theorem TX6_jump (l : Launch) {D : va_G} {la : Nat → Nat → Nat} {cyI cyF cyM : ClassId} {t0 mo N : Nat} {j1 : Nat} {a2 : Int32} (hj1 : VC mo 2 j1) {st : xSt} {st' : xSt} (hf : fX6_jump N mo j1 a2 st = some st') : MetC D cyI cyF cyM mo la t0 l yX6_jump (Cond.code yX6_jump cX6_jump 3 none :: xALL) rm_X6_jump [.ref (la 6 0), .ref (la 2 j1), .int a2] none st st' := by
  refine MetW.intro (own := RX6) (by decide) (Nat.le_of_ble_eq_true rfl) rfl ?_
  intro p e s m below meth c X hr hlk hP ls hl
  have hx := X.1.1
  have hb := X.1.2.1
  have hS : va_S (xA (VC mo) la) s.heap s.heap [] := va_S.rf
  unfold fX6_jump at hf
  replace hl : lv_has ls 3 [(0, .ref (la 6 0)), (1, .ref (la 2 j1)), (2, .int a2)] := hl
  refine lv_aload_n hx hb dX6_jump_0 rfl (lv_at hl 1 rfl) ?_
  refine lv_iload_n hx hb dX6_jump_1 rfl (lv_at hl 2 rfl) ?_
  refine pC_Frame_next X hP hS hj1 fl_X6_151 dX6_jump_2 (fun H locs hP hS => ?_)
  obtain ⟨st1, hP, hf⟩ := nm_gen (P := fun z => HW D (VC mo) la (ECf cyI cyF cyM mo la) z H) hP hf
  refine lv_aload_n hx hb dX6_jump_5 rfl (lv_at hl 1 rfl) ?_
  refine lv_aload_n hx hb dX6_jump_6 rfl (lv_at hl 0 rfl) ?_
  refine gC_Runner_rows X hP fl_X6_36 dX6_jump_7 ?_
  refine lv_aload_n hx hb dX6_jump_10 rfl (lv_at hl 0 rfl) ?_
  refine gC_Runner_base X hP fl_X6_163 dX6_jump_11 ?_
  refine lv_bipush (v := 10) hx hb dX6_jump_14 (by decide) ?_
  refine lv_iadd hx hb dX6_jump_16 ?_
  obtain ⟨hn2, hf⟩ := ck_of hf
  refine w_iald X hP (c0 := (rwC (st1.2 2 0))) (i0 := (rwI mo (st1.2 2 0))) (VC_rw mo _) (n := (rwN (st1.2 2 0))) (ECf_rw _ _ _) hn2 dX6_jump_17 ?_
  refine lv_topi (fun x3 ex => ?_)
  replace hf := nm_of hf ex
  clear ex
  refine pC_Frame_nextRow X hP hS hj1 fl_X6_160 dX6_jump_18 (fun H locs hP hS => ?_)
  obtain ⟨st4, hP, hf⟩ := nm_gen (P := fun z => HW D (VC mo) la (ECf cyI cyF cyM mo la) z H) hP hf
  obtain rfl := Option.some.inj hf
  exact w_vret X hr hlk hP hS dX6_jump_21
theorem KX6_jump : xKv yX6_jump cX6_jump 3 none RX6 2 := ⟨cd_X6_jump, im_X6_jump, se_X6_jump, in_X6, by decide +kernel⟩
abbrev rm_X6_handOver : Room := { frames := 2, cells := 0, slots := 0, locals := 42 }
def fX6_handOver_b54 (N mo : Nat) (j1 : Nat) (st : xSt) : Option xSt := if ((st.1 6 0 13) + (1 : Int32)) < 0 ∨ (rwN (st.2 2 0)) ≤ (((st.1 6 0 13) + (1 : Int32))).toNatClampNeg then none else nm (st.1 (rwC (st.2 2 0)) (rwI mo (st.2 2 0)) (((st.1 6 0 13) + (1 : Int32))).toNatClampNeg) (fun x14 => nm (pI st 2 j1 8 x14) (fun st15 => some st15))
set_option maxHeartbeats 4000000 in
set_option maxRecDepth 100000 in
theorem BX6_handOver_54 {p : Program} {l : Launch} {e : Env} {s : State} {m : MethodId} {args : Array Value} {below : List Frame} {meth : Method} {c : Code} {D : va_G} {la : Nat → Nat → Nat} {cyI cyF cyM : ClassId} {t0 mo N : Nat} {st' : xSt} (X : xCx D (VC mo) la cyI cyF cyM t0 p m c cX6_handOver 4 s args RX6) (hr : meth.sig.returnType = none) (hlk : meth.locks = false) : ∀ (j1 : Nat) (st : xSt) (H : Heap) (locs : List Loc) (ls : Array Slot), VC mo 2 j1 → fX6_handOver_b54 N mo j1 st = some st' → HW D (VC mo) la (ECf cyI cyF cyM mo la) st H → va_S (xA (VC mo) la) s.heap H locs → lv_has ls 4 [(0, .ref (la 6 0)), (1, .ref (la 2 j1))] → W p l e rm_X6_handOver s m args below meth c H locs 0 0 (MQ below (xQc D (VC mo) la (ECf cyI cyF cyM mo la) none st') args s 0 0 (xA (VC mo) la)) (F0 m 54 ls []) := by
  have hx := X.1.1
  have hb := X.1.2.1
  intro j1 st H locs ls hj1 hf hP hS hl
  unfold fX6_handOver_b54 at hf
  refine lv_aload_n hx hb dX6_handOver_54 rfl (lv_at hl 1 rfl) ?_
  refine lv_aload_n hx hb dX6_handOver_55 rfl (lv_at hl 0 rfl) ?_
  refine gC_Runner_rows X hP fl_X6_36 dX6_handOver_56 ?_
  refine lv_aload_n hx hb dX6_handOver_59 rfl (lv_at hl 0 rfl) ?_
  refine gC_Runner_base X hP fl_X6_163 dX6_handOver_60 ?_
  refine lv_iconst (v := 1) hx hb dX6_handOver_63 (by decide) ?_
  refine lv_iadd hx hb dX6_handOver_64 ?_
  obtain ⟨hn13, hf⟩ := ck_of hf
  refine w_iald X hP (c0 := (rwC (st.2 2 0))) (i0 := (rwI mo (st.2 2 0))) (VC_rw mo _) (n := (rwN (st.2 2 0))) (ECf_rw _ _ _) hn13 dX6_handOver_65 ?_
  refine lv_topi (fun x14 ex => ?_)
  replace hf := nm_of hf ex
  clear ex
  refine pC_Frame_into X hP hS hj1 fl_X6_217 dX6_handOver_66 (fun H locs hP hS => ?_)
  obtain ⟨st15, hP, hf⟩ := nm_gen (P := fun z => HW D (VC mo) la (ECf cyI cyF cyM mo la) z H) hP hf
  obtain rfl := Option.some.inj hf
  exact w_vret X hr hlk hP hS dX6_handOver_69
def fX6_handOver_b14 (N mo : Nat) : Nat → Nat → Int32 → Int32 → xSt → Option xSt
  | 0, _, _, _, _ => none
  | n + 1, j1, a2, a3, st => if a2 ≤ a3 then fX6_handOver_b54 N mo j1 st else if (4 : Int32) ≤ a3 then fX6_handOver_b54 N mo j1 st else if (((st.1 6 0 13) + (4 : Int32)) + a3) < 0 ∨ (rwN (st.2 2 0)) ≤ ((((st.1 6 0 13) + (4 : Int32)) + a3)).toNatClampNeg then none else nm (st.1 (rwC (st.2 2 0)) (rwI mo (st.2 2 0)) ((((st.1 6 0 13) + (4 : Int32)) + a3)).toNatClampNeg) (fun x6 => bd (fX6_valueOf N mo j1 x6 st) (fun v9 st7 => if a3 < 0 ∨ 4 ≤ (a3).toNatClampNeg then none else nm (pI st7 20 5 (a3).toNatClampNeg v9) (fun st11 => nm (a3 + (1 : Int32)) (fun x12 => fX6_handOver_b14 N mo n j1 a2 x12 st11))))
set_option maxHeartbeats 4000000 in
set_option maxRecDepth 100000 in
theorem BX6_handOver_14 {p : Program} {l : Launch} {e : Env} {s : State} {m : MethodId} {args : Array Value} {below : List Frame} {meth : Method} {c : Code} {D : va_G} {la : Nat → Nat → Nat} {cyI cyF cyM : ClassId} {t0 mo N : Nat} {st' : xSt} (X : xCx D (VC mo) la cyI cyF cyM t0 p m c cX6_handOver 4 s args RX6) (hr : meth.sig.returnType = none) (hlk : meth.locks = false) : ∀ n : Nat, ∀ (j1 : Nat) (a2 : Int32) (a3 : Int32) (st : xSt) (H : Heap) (locs : List Loc) (ls : Array Slot), VC mo 2 j1 → fX6_handOver_b14 N mo n j1 a2 a3 st = some st' → HW D (VC mo) la (ECf cyI cyF cyM mo la) st H → va_S (xA (VC mo) la) s.heap H locs → lv_has ls 4 [(0, .ref (la 6 0)), (1, .ref (la 2 j1)), (2, .int a2), (3, .int a3)] → W p l e rm_X6_handOver s m args below meth c H locs 0 0 (MQ below (xQc D (VC mo) la (ECf cyI cyF cyM mo la) none st') args s 0 0 (xA (VC mo) la)) (F0 m 14 ls []) := by
  have hx := X.1.1
  have hb := X.1.2.1
  intro n
  induction n with
  | zero =>
    intro j1 a2 a3 st H locs ls hj1 hf hP hS hl
    rw [fX6_handOver_b14] at hf
    cases hf
  | succ n ih =>
    intro j1 a2 a3 st H locs ls hj1 hf hP hS hl
    rw [fX6_handOver_b14] at hf
    refine lv_iload_n hx hb dX6_handOver_14 rfl (lv_at hl 3 rfl) ?_
    refine lv_iload_n hx hb dX6_handOver_15 rfl (lv_at hl 2 rfl) ?_
    refine lv_icmp_ge (tgt := 54) hx hb dX6_handOver_16 (by decide) (fun c3 => ?_) (fun c3 => ?_)
    · replace hf := (if_pos c3).symm.trans hf
      exact BX6_handOver_54 X hr hlk _ _ _ _ _ hj1 hf hP hS (lv_sub hl [0, 1] rfl)
    · replace hf := (if_neg c3).symm.trans hf
      refine lv_iload_n hx hb dX6_handOver_19 rfl (lv_at hl 3 rfl) ?_
      refine lv_iconst (v := 4) hx hb dX6_handOver_20 (by decide) ?_
      refine lv_icmp_ge (tgt := 54) hx hb dX6_handOver_21 (by decide) (fun c4 => ?_) (fun c4 => ?_)
      · replace hf := (if_pos c4).symm.trans hf
        exact BX6_handOver_54 X hr hlk _ _ _ _ _ hj1 hf hP hS (lv_sub hl [0, 1] rfl)
      · replace hf := (if_neg c4).symm.trans hf
        refine lv_aload_n hx hb dX6_handOver_24 rfl (lv_at hl 0 rfl) ?_
        refine gC_Runner_handed X hP fl_X6_28 dX6_handOver_25 ?_
        refine lv_iload_n hx hb dX6_handOver_28 rfl (lv_at hl 3 rfl) ?_
        refine lv_aload_n hx hb dX6_handOver_29 rfl (lv_at hl 0 rfl) ?_
        refine lv_aload_n hx hb dX6_handOver_30 rfl (lv_at hl 1 rfl) ?_
        refine lv_aload_n hx hb dX6_handOver_31 rfl (lv_at hl 0 rfl) ?_
        refine gC_Runner_rows X hP fl_X6_36 dX6_handOver_32 ?_
        refine lv_aload_n hx hb dX6_handOver_35 rfl (lv_at hl 0 rfl) ?_
        refine gC_Runner_base X hP fl_X6_163 dX6_handOver_36 ?_
        refine lv_iconst (v := 4) hx hb dX6_handOver_39 (by decide) ?_
        refine lv_iadd hx hb dX6_handOver_40 ?_
        refine lv_iload_n hx hb dX6_handOver_41 rfl (lv_at hl 3 rfl) ?_
        refine lv_iadd hx hb dX6_handOver_42 ?_
        obtain ⟨hn5, hf⟩ := ck_of hf
        refine w_iald X hP (c0 := (rwC (st.2 2 0))) (i0 := (rwI mo (st.2 2 0))) (VC_rw mo _) (n := (rwN (st.2 2 0))) (ECf_rw _ _ _) hn5 dX6_handOver_43 ?_
        refine lv_topi (fun x6 ex => ?_)
        replace hf := nm_of hf ex
        clear ex
        obtain ⟨v9, st7, hr8, hf⟩ := bd_2 hf
        refine w_V1 X (TX6_valueOf l hj1 hr8) hP hS rfl KX6_valueOf ml_X6_173 ⟨rfl, rfl⟩ ⟨by decide, by decide⟩ (x_recv (E := fun c i => (ECf cyI cyF cyM mo la) (st.1 c i) st.2 c i) (c0 := 6) (i0 := 0) X.2.2.1 hP rfl (ci := 6) rfl rfl) rfl hl.1 (Nat.le_of_ble_eq_true rfl) dX6_handOver_44 (fun H locs hP hS => ?_)
        obtain ⟨hn10, hf⟩ := ck_of hf
        refine w_iast X hP hS (c0 := 20) (i0 := 5) (show 5 < 7 by decide) (n := 4) (fun _ => rfl) hn10 dX6_handOver_47 (fun H locs hP hS => ?_)
        obtain ⟨st11, hP, hf⟩ := nm_gen (P := fun z => HW D (VC mo) la (ECf cyI cyF cyM mo la) z H) hP hf
        obtain ⟨x12, ex⟩ : ∃ y : Int32, y = (a3 + (1 : Int32)) := ⟨_, rfl⟩
        replace hf := nm_of hf ex
        refine lv_iinc (v := x12) (lv' := [(3, .int x12), (0, .ref (la 6 0)), (1, .ref (la 2 j1)), (2, .int a2)]) hx hb dX6_handOver_48 hl (k := 3) rfl (by rw [ex]; rfl) (by decide) rfl (fun ls hl => ?_)
        clear ex
        refine lv_goto (tgt := 14) hx hb dX6_handOver_51 (by decide) ?_
        exact ih _ _ _ _ _ _ _ hj1 hf hP hS (lv_sub hl [1, 2, 3, 0] rfl)
def fX6_handOver (N mo : Nat) (j1 : Nat) (st : xSt) : Option xSt := if ((st.1 6 0 13) + (3 : Int32)) < 0 ∨ (rwN (st.2 2 0)) ≤ (((st.1 6 0 13) + (3 : Int32))).toNatClampNeg then none else nm (st.1 (rwC (st.2 2 0)) (rwI mo (st.2 2 0)) (((st.1 6 0 13) + (3 : Int32))).toNatClampNeg) (fun x2 => fX6_handOver_b14 N mo N j1 x2 (0 : Int32) st)
set_option maxHeartbeats 4000000 in
set_option maxRecDepth 100000 in
theorem TX6_handOver (l : Launch) {D : va_G} {la : Nat → Nat → Nat} {cyI cyF cyM : ClassId} {t0 mo N : Nat} {j1 : Nat} (hj1 : VC mo 2 j1) {st : xSt} {st' : xSt} (hf : fX6_handOver N mo j1 st = some st') : MetC D cyI cyF cyM mo la t0 l yX6_handOver (Cond.code yX6_handOver cX6_handOver 4 none :: xALL) rm_X6_handOver [.ref (la 6 0), .ref (la 2 j1)] none st st' := by
  refine MetW.intro (own := RX6) (by decide) (Nat.le_of_ble_eq_true rfl) rfl ?_
  intro p e s m below meth c X hr hlk hP ls hl
  have hx := X.1.1
  have hb := X.1.2.1
  have hS : va_S (xA (VC mo) la) s.heap s.heap [] := va_S.rf
  unfold fX6_handOver at hf
  replace hl : lv_has ls 4 [(0, .ref (la 6 0)), (1, .ref (la 2 j1))] := hl
  refine lv_aload_n hx hb dX6_handOver_0 rfl (lv_at hl 0 rfl) ?_
  refine gC_Runner_rows X hP fl_X6_36 dX6_handOver_1 ?_
  refine lv_aload_n hx hb dX6_handOver_4 rfl (lv_at hl 0 rfl) ?_
  refine gC_Runner_base X hP fl_X6_163 dX6_handOver_5 ?_
  refine lv_iconst (v := 3) hx hb dX6_handOver_8 (by decide) ?_
  refine lv_iadd hx hb dX6_handOver_9 ?_
  obtain ⟨hn1, hf⟩ := ck_of hf
  refine w_iald X hP (c0 := (rwC (st.2 2 0))) (i0 := (rwI mo (st.2 2 0))) (VC_rw mo _) (n := (rwN (st.2 2 0))) (ECf_rw _ _ _) hn1 dX6_handOver_10 ?_
  refine lv_topi (fun x2 ex => ?_)
  replace hf := nm_of hf ex
  clear ex
  refine lv_istore_n (lv' := [(2, .int x2), (0, .ref (la 6 0)), (1, .ref (la 2 j1))]) hx hb dX6_handOver_11 rfl hl (by decide) rfl (fun ls hl => ?_)
  refine lv_iconst (v := 0) hx hb dX6_handOver_12 (by decide) ?_
  refine lv_istore_n (lv' := [(3, .int (0 : Int32)), (2, .int x2), (0, .ref (la 6 0)), (1, .ref (la 2 j1))]) hx hb dX6_handOver_13 rfl hl (by decide) rfl (fun ls hl => ?_)
  exact BX6_handOver_14 X hr hlk N _ _ _ _ _ _ _ hj1 hf hP hS (lv_sub hl [2, 3, 1, 0] rfl)
theorem KX6_handOver : xKv yX6_handOver cX6_handOver 4 none RX6 1 := ⟨cd_X6_handOver, im_X6_handOver, se_X6_handOver, in_X6, by decide +kernel⟩
abbrev rm_X6_addressFor : Room := { frames := 0, cells := 0, slots := 0, locals := 0 }
def fX6_addressFor (N mo : Nat) (a0 : Int32) (st : xSt) : Option (Int32 × xSt) := if a0 < (0 : Int32) then some ((-1 : Int32), st) else if (256 : Int32) ≤ a0 then some ((-1 : Int32), st) else some (((4 : Int32) * a0), st)
set_option maxHeartbeats 4000000 in
set_option maxRecDepth 100000 in
theorem TX6_addressFor (l : Launch) {D : va_G} {la : Nat → Nat → Nat} {cyI cyF cyM : ClassId} {t0 mo N : Nat} {a0 : Int32} {st : xSt} {r : Int32} {st' : xSt} (hf : fX6_addressFor N mo a0 st = some (r, st')) : MetC D cyI cyF cyM mo la t0 l yX6_addressFor (Cond.code yX6_addressFor cX6_addressFor 1 (some .int) :: xALL) rm_X6_addressFor [.int a0] (some (.int r)) st st' := by
  refine MetW.intro (own := RX6) (by decide) (Nat.le_of_ble_eq_true rfl) rfl ?_
  intro p e s m below meth c X hr hlk hP ls hl
  have hx := X.1.1
  have hb := X.1.2.1
  have hS : va_S (xA (VC mo) la) s.heap s.heap [] := va_S.rf
  unfold fX6_addressFor at hf
  replace hl : lv_has ls 1 [(0, .int a0)] := hl
  refine lv_iload_n hx hb dX6_addressFor_0 rfl (lv_at hl 0 rfl) ?_
  refine lv_if_lt (tgt := 17) hx hb dX6_addressFor_1 (by decide) (fun c1 => ?_) (fun c1 => ?_)
  · replace hf := (if_pos c1).symm.trans hf
    refine lv_iconst (v := -1) hx hb dX6_addressFor_17 (by decide) ?_
    obtain ⟨rfl, rfl⟩ := sp_2 hf
    exact w_iret X hr hlk hP hS dX6_addressFor_18
  · replace hf := (if_neg c1).symm.trans hf
    refine lv_iload_n hx hb dX6_addressFor_4 rfl (lv_at hl 0 rfl) ?_
    refine lv_sipush (v := 256) hx hb dX6_addressFor_5 (by decide) ?_
    refine lv_icmp_ge (tgt := 17) hx hb dX6_addressFor_8 (by decide) (fun c2 => ?_) (fun c2 => ?_)
    · replace hf := (if_pos c2).symm.trans hf
      refine lv_iconst (v := -1) hx hb dX6_addressFor_17 (by decide) ?_
      obtain ⟨rfl, rfl⟩ := sp_2 hf
      exact w_iret X hr hlk hP hS dX6_addressFor_18
    · replace hf := (if_neg c2).symm.trans hf
      refine lv_iconst (v := 4) hx hb dX6_addressFor_11 (by decide) ?_
      refine lv_iload_n hx hb dX6_addressFor_12 rfl (lv_at hl 0 rfl) ?_
      refine lv_imul hx hb dX6_addressFor_13 ?_
      refine lv_goto (tgt := 18) hx hb dX6_addressFor_14 (by decide) ?_
      obtain ⟨rfl, rfl⟩ := sp_2 hf
      exact w_iret X hr hlk hP hS dX6_addressFor_18
theorem KX6_addressFor : xKs yX6_addressFor cX6_addressFor 1 (some .int) RX6 1 := ⟨cd_X6_addressFor, ss_X6_addressFor, in_X6, by decide +kernel⟩
abbrev rm_X6_throwOut : Room := { frames := 1, cells := 0, slots := 0, locals := 21 }
def fX6_throwOut_b7 (N mo : Nat) : Nat → Int32 → Int32 → xSt → Option xSt
  | 0, _, _, _ => none
  | n + 1, a1, a2, st => if a2 < (0 : Int32) then nm (pI st 5 0 4 a1) (fun st3 => Option.bind (fX6_fail N mo (6 : Int32) st3) (fun st4 => some st4)) else if a2 < 0 ∨ 12 ≤ (a2).toNatClampNeg then none else nm ((a2).toNatClampNeg) (fun j7 => if (st.1 2 j7 6) = (0 : Int32) then nm (a2 + (-1 : Int32)) (fun x9 => fX6_throwOut_b7 N mo n a1 x9 st) else nm (pI st 6 0 10 (a2 + (1 : Int32))) (fun st10 => nm (pI st10 2 j7 3 (st10.1 2 j7 6)) (fun st11 => nm (pI st11 2 j7 5 (st11.1 2 j7 7)) (fun st12 => nm (pI st12 20 1 7 a1) (fun st13 => nm (pI st13 20 0 7 ((st13.1 20 0 7) + (1 : Int32))) (fun st14 => some st14))))))
set_option maxHeartbeats 4000000 in
set_option maxRecDepth 100000 in
theorem BX6_throwOut_7 {p : Program} {l : Launch} {e : Env} {s : State} {m : MethodId} {args : Array Value} {below : List Frame} {meth : Method} {c : Code} {D : va_G} {la : Nat → Nat → Nat} {cyI cyF cyM : ClassId} {t0 mo N : Nat} {st' : xSt} (X : xCx D (VC mo) la cyI cyF cyM t0 p m c cX6_throwOut 4 s args RX6) (hr : meth.sig.returnType = none) (hlk : meth.locks = false) : ∀ n : Nat, ∀ (a1 : Int32) (a2 : Int32) (st : xSt) (H : Heap) (locs : List Loc) (ls : Array Slot), fX6_throwOut_b7 N mo n a1 a2 st = some st' → HW D (VC mo) la (ECf cyI cyF cyM mo la) st H → va_S (xA (VC mo) la) s.heap H locs → lv_has ls 4 [(0, .ref (la 6 0)), (1, .int a1), (2, .int a2)] → W p l e rm_X6_throwOut s m args below meth c H locs 0 0 (MQ below (xQc D (VC mo) la (ECf cyI cyF cyM mo la) none st') args s 0 0 (xA (VC mo) la)) (F0 m 7 ls []) := by
  have hx := X.1.1
  have hb := X.1.2.1
  intro n
  induction n with
  | zero =>
    intro a1 a2 st H locs ls hf hP hS hl
    rw [fX6_throwOut_b7] at hf
    cases hf
  | succ n ih =>
    intro a1 a2 st H locs ls hf hP hS hl
    rw [fX6_throwOut_b7] at hf
    refine lv_iload_n hx hb dX6_throwOut_7 rfl (lv_at hl 2 rfl) ?_
    refine lv_if_lt (tgt := 74) hx hb dX6_throwOut_8 (by decide) (fun c2 => ?_) (fun c2 => ?_)
    · replace hf := (if_pos c2).symm.trans hf
      refine lv_aload_n hx hb dX6_throwOut_74 rfl (lv_at hl 0 rfl) ?_
      refine gC_Runner_outcome X hP fl_X6_12 dX6_throwOut_75 ?_
      refine lv_iload_n hx hb dX6_throwOut_78 rfl (lv_at hl 1 rfl) ?_
      refine pC_Outcome_thrown X hP hS fl_X6_223 dX6_throwOut_79 (fun H locs hP hS => ?_)
      obtain ⟨st3, hP, hf⟩ := nm_gen (P := fun z => HW D (VC mo) la (ECf cyI cyF cyM mo la) z H) hP hf
      refine lv_aload_n hx hb dX6_throwOut_82 rfl (lv_at hl 0 rfl) ?_
      refine lv_bipush (v := 6) hx hb dX6_throwOut_83 (by decide) ?_
      obtain ⟨st4, hr5, hf⟩ := bd_of hf
      refine w_V0 X (TX6_fail l hr5) hP hS rfl KX6_fail ml_X6_97 ⟨rfl, rfl⟩ ⟨by decide, by decide⟩ (x_recv (E := fun c i => (ECf cyI cyF cyM mo la) (st3.1 c i) st3.2 c i) (c0 := 6) (i0 := 0) X.2.2.1 hP rfl (ci := 6) rfl rfl) rfl hl.1 (Nat.le_of_ble_eq_true rfl) dX6_throwOut_85 (fun H locs hP hS => ?_)
      obtain rfl := Option.some.inj hf
      exact w_vret X hr hlk hP hS dX6_throwOut_88
    · replace hf := (if_neg c2).symm.trans hf
      refine lv_aload_n hx hb dX6_throwOut_11 rfl (lv_at hl 0 rfl) ?_
      refine gC_Runner_frames X hP fl_X6_24 dX6_throwOut_12 ?_
      refine lv_iload_n hx hb dX6_throwOut_15 rfl (lv_at hl 2 rfl) ?_
      obtain ⟨hn6, hf⟩ := ck_of hf
      refine gC_frames X hP hn6 dX6_throwOut_16 ?_
      obtain ⟨j7, ej, hj7⟩ : ∃ y : Nat, y = (a2).toNatClampNeg ∧ VC mo 2 y := ⟨_, rfl, (Nat.lt_of_not_le (fun z => hn6 (Or.inr z)))⟩
      refine w_top (v' := .ref (la 2 j7)) (by rw [ej]) ?_
      replace hf := nm_of hf ej
      clear ej
      refine lv_astore_n (lv' := [(3, .ref (la 2 j7)), (0, .ref (la 6 0)), (1, .int a1), (2, .int a2)]) hx hb dX6_throwOut_17 rfl hl (by decide) rfl (fun ls hl => ?_)
      refine lv_aload_n hx hb dX6_throwOut_18 rfl (lv_at hl 0 rfl) ?_
      refine gC_Frame_catchAt X hP hj7 fl_X6_203 dX6_throwOut_19 ?_
      refine lv_if_eq (tgt := 68) hx hb dX6_throwOut_22 (by decide) (fun c8 => ?_) (fun c8 => ?_)
      · replace hf := (if_pos c8).symm.trans hf
        obtain ⟨x9, ex⟩ : ∃ y : Int32, y = (a2 + (-1 : Int32)) := ⟨_, rfl⟩
        replace hf := nm_of hf ex
        refine lv_iinc (v := x9) (lv' := [(2, .int x9), (3, .ref (la 2 j7)), (0, .ref (la 6 0)), (1, .int a1)]) hx hb dX6_throwOut_68 hl (k := 3) rfl (by rw [ex]; rfl) (by decide) rfl (fun ls hl => ?_)
        clear ex
        refine lv_goto (tgt := 7) hx hb dX6_throwOut_71 (by decide) ?_
        exact ih _ _ _ _ _ _  hf hP hS (lv_sub hl [2, 3, 0] rfl)
      · replace hf := (if_neg c8).symm.trans hf
        refine lv_aload_n hx hb dX6_throwOut_25 rfl (lv_at hl 1 rfl) ?_
        refine lv_iload_n hx hb dX6_throwOut_26 rfl (lv_at hl 3 rfl) ?_
        refine lv_iconst (v := 1) hx hb dX6_throwOut_27 (by decide) ?_
        refine lv_iadd hx hb dX6_throwOut_28 ?_
        refine pC_Runner_depth X hP hS fl_X6_61 dX6_throwOut_29 (fun H locs hP hS => ?_)
        obtain ⟨st10, hP, hf⟩ := nm_gen (P := fun z => HW D (VC mo) la (ECf cyI cyF cyM mo la) z H) hP hf
        refine lv_aload_n hx hb dX6_throwOut_32 rfl (lv_at hl 0 rfl) ?_
        refine lv_aload_n hx hb dX6_throwOut_33 rfl (lv_at hl 0 rfl) ?_
        refine gC_Frame_catchAt X hP hj7 fl_X6_203 dX6_throwOut_34 ?_
        refine pC_Frame_next X hP hS hj7 fl_X6_151 dX6_throwOut_37 (fun H locs hP hS => ?_)
        obtain ⟨st11, hP, hf⟩ := nm_gen (P := fun z => HW D (VC mo) la (ECf cyI cyF cyM mo la) z H) hP hf
        refine lv_aload_n hx hb dX6_throwOut_40 rfl (lv_at hl 0 rfl) ?_
        refine lv_aload_n hx hb dX6_throwOut_41 rfl (lv_at hl 0 rfl) ?_
        refine gC_Frame_catchRow X hP hj7 fl_X6_206 dX6_throwOut_42 ?_
        refine pC_Frame_nextRow X hP hS hj7 fl_X6_160 dX6_throwOut_45 (fun H locs hP hS => ?_)
        obtain ⟨st12, hP, hf⟩ := nm_gen (P := fun z => HW D (VC mo) la (ECf cyI cyF cyM mo la) z H) hP hf
        refine lv_aload_n hx hb dX6_throwOut_48 rfl (lv_at hl 1 rfl) ?_
        refine gC_Runner_globals X hP fl_X6_47 dX6_throwOut_49 ?_
        refine lv_bipush (v := 7) hx hb dX6_throwOut_52 (by decide) ?_
        refine lv_iload_n hx hb dX6_throwOut_54 rfl (lv_at hl 2 rfl) ?_
        refine w_iastK X hP hS (c0 := 20) (i0 := 1) (show 1 < 7 by decide) (n := 8) (fun _ => rfl) 7 (by decide) (show ¬ ((7 : Int32) < 0 ∨ 8 ≤ ((7 : Int32)).toNatClampNeg) by decide) dX6_throwOut_55 (fun H locs hP hS => ?_)
        obtain ⟨st13, hP, hf⟩ := nm_gen (P := fun z => HW D (VC mo) la (ECf cyI cyF cyM mo la) z H) hP hf
        refine lv_aload_n hx hb dX6_throwOut_56 rfl (lv_at hl 1 rfl) ?_
        refine gC_Runner_counts X hP fl_X6_50 dX6_throwOut_57 ?_
        refine lv_bipush (v := 7) hx hb dX6_throwOut_60 (by decide) ?_
        refine lv_dup2_11 hx hb dX6_throwOut_62 rfl rfl ?_
        refine w_ialdK X hP (c0 := 20) (i0 := 0) (show 0 < 7 by decide) (n := 8) (fun _ => rfl) 7 (by decide) (show ¬ ((7 : Int32) < 0 ∨ 8 ≤ ((7 : Int32)).toNatClampNeg) by decide) dX6_throwOut_63 ?_
        refine lv_iconst (v := 1) hx hb dX6_throwOut_64 (by decide) ?_
        refine lv_iadd hx hb dX6_throwOut_65 ?_
        refine w_iastK X hP hS (c0 := 20) (i0 := 0) (show 0 < 7 by decide) (n := 8) (fun _ => rfl) 7 (by decide) (show ¬ ((7 : Int32) < 0 ∨ 8 ≤ ((7 : Int32)).toNatClampNeg) by decide) dX6_throwOut_66 (fun H locs hP hS => ?_)
        obtain ⟨st14, hP, hf⟩ := nm_gen (P := fun z => HW D (VC mo) la (ECf cyI cyF cyM mo la) z H) hP hf
        obtain rfl := Option.some.inj hf
        exact w_vret X hr hlk hP hS dX6_throwOut_67
def fX6_throwOut (N mo : Nat) (a1 : Int32) (st : xSt) : Option xSt := nm ((st.1 6 0 10) - (2 : Int32)) (fun x1 => fX6_throwOut_b7 N mo N a1 x1 st)
set_option maxHeartbeats 4000000 in
set_option maxRecDepth 100000 in
theorem TX6_throwOut (l : Launch) {D : va_G} {la : Nat → Nat → Nat} {cyI cyF cyM : ClassId} {t0 mo N : Nat} {a1 : Int32} {st : xSt} {st' : xSt} (hf : fX6_throwOut N mo a1 st = some st') : MetC D cyI cyF cyM mo la t0 l yX6_throwOut (Cond.code yX6_throwOut cX6_throwOut 4 none :: xALL) rm_X6_throwOut [.ref (la 6 0), .int a1] none st st' := by
  refine MetW.intro (own := RX6) (by decide) (Nat.le_of_ble_eq_true rfl) rfl ?_
  intro p e s m below meth c X hr hlk hP ls hl
  have hx := X.1.1
  have hb := X.1.2.1
  have hS : va_S (xA (VC mo) la) s.heap s.heap [] := va_S.rf
  unfold fX6_throwOut at hf
  replace hl : lv_has ls 4 [(0, .ref (la 6 0)), (1, .int a1)] := hl
  refine lv_aload_n hx hb dX6_throwOut_0 rfl (lv_at hl 0 rfl) ?_
  refine gC_Runner_depth X hP fl_X6_61 dX6_throwOut_1 ?_
  refine lv_iconst (v := 2) hx hb dX6_throwOut_4 (by decide) ?_
  refine lv_isub hx hb dX6_throwOut_5 ?_
  refine lv_topi (fun x1 ex => ?_)
  replace hf := nm_of hf ex
  clear ex
  refine lv_istore_n (lv' := [(2, .int x1), (0, .ref (la 6 0)), (1, .int a1)]) hx hb dX6_throwOut_6 rfl hl (by decide) rfl (fun ls hl => ?_)
  exact BX6_throwOut_7 X hr hlk N _ _ _ _ _ _  hf hP hS (lv_sub hl [1, 2, 0] rfl)
theorem KX6_throwOut : xKv yX6_throwOut cX6_throwOut 4 none RX6 1 := ⟨cd_X6_throwOut, im_X6_throwOut, se_X6_throwOut, in_X6, by decide +kernel⟩
