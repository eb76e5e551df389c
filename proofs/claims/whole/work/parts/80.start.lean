/-! The law's beginning: what the tables and the Statement give, the two objects, the array. -/
theorem ls_un : Cond.laysStatic Bundle.tN "UNASSIGNED_STACK" Bundle.steD ∈ lw_tbl := List.mem_of_getElem? (i := 566) (by decide +kernel)
theorem ls_su : Cond.laysStatic Bundle.tN "SUPPRESSED_SENTINEL" Bundle.listD ∈ lw_tbl := List.mem_of_getElem? (i := 568) (by decide +kernel)
theorem in_thr : Cond.initialized Bundle.tN ∈ lw_tbl := List.mem_of_getElem? (i := 60) (by decide +kernel)
theorem sr_65 : Cond.stringRef RX8 65 "no such byte" ∈ lw_tbl := List.mem_of_getElem? (i := 628) (by decide +kernel)
theorem sr_76 : Cond.stringRef RX8 76 "no such global" ∈ lw_tbl := List.mem_of_getElem? (i := 644) (by decide +kernel)
theorem law_base {s : State} {args : Array Value} (hts : ∀ w ∈ lw_tbl, w.before args s = true) : ∃ (D : va_G) (cyI cyF cyM cyJ : ClassId), va_K D vwCl (xTys cyI cyF cyM) s ∧ iNest s ∧ ArrOfT s cyJ .long ∧ s.vm.findClass ("[" ++ (FieldType.long).toString) = some cyJ := by
  have hA : ∀ w ∈ xALL, w.before args s = true := fun w hw => hts w (xALL_tbl w hw)
  have h : ∀ c : Nat, ∃ r : ClassId × (Nat → Nat), ∀ q, vwCl[c]? = some q → u_Kn s q.1 q.2.1 q.2.2 r.1 r.2 := by
    intro c
    match c with
    | 0 => obtain ⟨cC, iS, hk⟩ := u_known hA la_J0 (hA _ it_J0); exact ⟨(cC, iS), fun q hq => by cases hq; exact hk⟩
    | 1 => obtain ⟨cC, iS, hk⟩ := u_known hA la_Jx00060 (hA _ it_Jx00060); exact ⟨(cC, iS), fun q hq => by cases hq; exact hk⟩
    | 2 => obtain ⟨cC, iS, hk⟩ := u_known hA la_X1 (hA _ it_X1); exact ⟨(cC, iS), fun q hq => by cases hq; exact hk⟩
    | 3 => obtain ⟨cC, iS, hk⟩ := u_known hA la_X2 (hA _ it_X2); exact ⟨(cC, iS), fun q hq => by cases hq; exact hk⟩
    | 4 => obtain ⟨cC, iS, hk⟩ := u_known hA la_X3 (hA _ it_X3); exact ⟨(cC, iS), fun q hq => by cases hq; exact hk⟩
    | 5 => obtain ⟨cC, iS, hk⟩ := u_known hA la_X4 (hA _ it_X4); exact ⟨(cC, iS), fun q hq => by cases hq; exact hk⟩
    | 6 => obtain ⟨cC, iS, hk⟩ := u_known hA la_X6 (hA _ it_X6); exact ⟨(cC, iS), fun q hq => by cases hq; exact hk⟩
    | 7 => obtain ⟨cC, iS, hk⟩ := u_known hA la_X7 (hA _ it_X7); exact ⟨(cC, iS), fun q hq => by cases hq; exact hk⟩
    | 8 => obtain ⟨cC, iS, hk⟩ := u_known hA la_X8 (hA _ it_X8); exact ⟨(cC, iS), fun q hq => by cases hq; exact hk⟩
    | 9 => obtain ⟨cC, iS, hk⟩ := u_known hA la_X9 (hA _ it_X9); exact ⟨(cC, iS), fun q hq => by cases hq; exact hk⟩
    | n + 10 => exact ⟨(default, fun _ => 0), fun q hq => by simp [vwCl] at hq⟩
  obtain ⟨cI, kI, compI, i1, i2, i3⟩ := Cond.arrayClass_spec (hA _ ac_int)
  obtain ⟨cJ, kJ, compJ, j1, j2, j3⟩ := Cond.arrayClass_spec (hA _ ac_long)
  obtain ⟨compF, cF, kF, f1, f2, f3, f4, f5⟩ := Cond.arrayOver_spec (hts _ ao_X1)
  obtain ⟨compM, cM, kM, m1, m2, m3, m4, m5⟩ := Cond.arrayOver_spec (hts _ ao_X2)
  refine ⟨(fun c => (Classical.choose (h c)).1, fun c => (Classical.choose (h c)).2), cI, cF, cM, cJ, ⟨fun c q hq => Classical.choose_spec (h c) q hq, fun k q hq => ?_⟩, ⟨va_Nw.of rfl (hts _ nl_X7_25), va_Nw.of rfl (hts _ nl_X6_11), va_Nw.of rfl (hts _ nl_X6_53), va_AO.of (hts _ ao_X2), va_AO.of (hts _ ao_X1)⟩, fun n z => ⟨fun k h => (by cases h), kJ, j2, compJ, j3⟩, j1⟩
  match k, hq with
  | 0, hq => cases hq; exact ⟨fun n z => ⟨fun k h => (by cases h), kI, i2, compI, i3⟩, i1⟩
  | 1, hq => cases hq; exact ⟨fun n z => ⟨fun k h => (by cases h), kF, f3, compF, f4⟩, kF, compF, f3, f4, f1, f5⟩
  | 2, hq => cases hq; exact ⟨fun n z => ⟨fun k h => (by cases h), kM, m3, compM, m4⟩, kM, compM, m3, m4, m1, m5⟩
  | n + 3, hq => simp [xTys] at hq
/-- the table of forms, and where it lies -/
theorem law_forms {s : State} {args : Array Value} (hts : ∀ w ∈ lw_tbl, w.before args s = true) (hgv : (Jvm.Cond.and given_1 narrow_1).before args s = true) : ∃ t0, va_Z RX0 "FORMS" "[I" (.ref t0) (fun q => s.heap.size ≤ q) s s.heap ∧ va_T .int t0 16 (fun j => .int (xForm j)) (fun q => s.heap.size ≤ q) s s.heap := by
  have hq := flat_of_before _ hgv
  have hA : ∀ a : Nat, a < s.heap.size → ¬ (fun q => s.heap.size ≤ q) a := fun a h => Nat.not_le.mpr h
  have harr : (Cond.arrayOf (.static RX0 "FORMS" "[I") .int).before args s = true := hq _ (by decide +kernel)
  have hlen : (Cond.eq (.length (.static RX0 "FORMS" "[I")) (.int 16)).before args s = true := hq _ (by decide +kernel)
  have e0 : (Cond.eq (.elem (.static RX0 "FORMS" "[I") (.int 0)) (.int 1)).before args s = true := hq _ (by decide +kernel)
  have e1 : (Cond.eq (.elem (.static RX0 "FORMS" "[I") (.int 1)) (.int 18)).before args s = true := hq _ (by decide +kernel)
  have e2 : (Cond.eq (.elem (.static RX0 "FORMS" "[I") (.int 2)) (.int 274)).before args s = true := hq _ (by decide +kernel)
  have e3 : (Cond.eq (.elem (.static RX0 "FORMS" "[I") (.int 3)) (.int 274)).before args s = true := hq _ (by decide +kernel)
  have e4 : (Cond.eq (.elem (.static RX0 "FORMS" "[I") (.int 4)) (.int 274)).before args s = true := hq _ (by decide +kernel)
  have e5 : (Cond.eq (.elem (.static RX0 "FORMS" "[I") (.int 5)) (.int 274)).before args s = true := hq _ (by decide +kernel)
  have e6 : (Cond.eq (.elem (.static RX0 "FORMS" "[I") (.int 6)) (.int 274)).before args s = true := hq _ (by decide +kernel)
  have e7 : (Cond.eq (.elem (.static RX0 "FORMS" "[I") (.int 7)) (.int 18)).before args s = true := hq _ (by decide +kernel)
  have e8 : (Cond.eq (.elem (.static RX0 "FORMS" "[I") (.int 8)) (.int 17)).before args s = true := hq _ (by decide +kernel)
  have e9 : (Cond.eq (.elem (.static RX0 "FORMS" "[I") (.int 9)) (.int 3)).before args s = true := hq _ (by decide +kernel)
  have e10 : (Cond.eq (.elem (.static RX0 "FORMS" "[I") (.int 10)) (.int 785)).before args s = true := hq _ (by decide +kernel)
  have e11 : (Cond.eq (.elem (.static RX0 "FORMS" "[I") (.int 11)) (.int 785)).before args s = true := hq _ (by decide +kernel)
  have e12 : (Cond.eq (.elem (.static RX0 "FORMS" "[I") (.int 12)) (.int 1042)).before args s = true := hq _ (by decide +kernel)
  have e13 : (Cond.eq (.elem (.static RX0 "FORMS" "[I") (.int 13)) (.int 1)).before args s = true := hq _ (by decide +kernel)
  have e14 : (Cond.eq (.elem (.static RX0 "FORMS" "[I") (.int 14)) (.int 3)).before args s = true := hq _ (by decide +kernel)
  have e15 : (Cond.eq (.elem (.static RX0 "FORMS" "[I") (.int 15)) (.int 0)).before args s = true := hq _ (by decide +kernel)
  obtain ⟨t0, h1, h2⟩ := va_Tof (tm := .static RX0 "FORMS" "[I") (ty := .int) (N := 16) (f := fun j => .int (xForm j)) (A := fun q => s.heap.size ≤ q) (by decide) harr (va_eqt hlen) (fun j hj => by
    match j, hj with
    | 0, _ => exact va_eqt e0
    | 1, _ => exact va_eqt e1
    | 2, _ => exact va_eqt e2
    | 3, _ => exact va_eqt e3
    | 4, _ => exact va_eqt e4
    | 5, _ => exact va_eqt e5
    | 6, _ => exact va_eqt e6
    | 7, _ => exact va_eqt e7
    | 8, _ => exact va_eqt e8
    | 9, _ => exact va_eqt e9
    | 10, _ => exact va_eqt e10
    | 11, _ => exact va_eqt e11
    | 12, _ => exact va_eqt e12
    | 13, _ => exact va_eqt e13
    | 14, _ => exact va_eqt e14
    | 15, _ => exact va_eqt e15
    | n + 16, hj => omega) hA
  exact ⟨t0, va_Zref (hts _ ls_forms) (hts _ (xALL_tbl _ in_X0)) h1 hA, h2⟩
theorem law_thr {s : State} {args : Array Value} (hts : ∀ w ∈ lw_tbl, w.before args s = true) (hgv : (Jvm.Cond.and given_1 narrow_1).before args s = true) : ∃ sa sb, ∀ (V : Nat → Nat → Prop) (la : Nat → Nat → Nat), (∀ c i, V c i → s.heap.size ≤ la c i) → xTS V la sa sb s s.heap := by
  have hq := flat_of_before _ hgv
  have x1 : (Cond.isRef (.static Bundle.tN "UNASSIGNED_STACK" Bundle.steD)).before args s = true := hq _ (by decide +kernel)
  have x2 : (Cond.isRef (.static Bundle.tN "SUPPRESSED_SENTINEL" Bundle.listD)).before args s = true := hq _ (by decide +kernel)
  have x3 : (Cond.exactly (.string RX8 65) "java/lang/String").before args s = true := hq _ (by decide +kernel)
  have x4 : (Cond.exactly (.string RX8 76) "java/lang/String").before args s = true := hq _ (by decide +kernel)
  obtain ⟨sa, _, _, _, a1, _⟩ := Cond.exactly_spec x3
  obtain ⟨sb, _, _, _, b1, _⟩ := Cond.exactly_spec x4
  refine ⟨sa, sb, fun V la hV => ?_⟩
  have hA : ∀ a : Nat, a < s.heap.size → ¬ xA V la a := fun a h z => by
    obtain ⟨c, i, z1, z2⟩ := z
    have := hV c i z1
    omega
  exact ⟨fun w hw => va_Nw.of (bad_on w hw) (hts w (of_decide_eq_true (List.all_eq_true.mp bad_tbl w hw))), vx_Zqof (hts _ ls_un) (hts _ in_thr) x1 hA, vx_Zqof (hts _ ls_su) (hts _ in_thr) x2 hA, vk_R.of (hts _ sr_65) a1, vk_R.of (hts _ sr_76) b1⟩
theorem law_stat {s : State} {args : Array Value} {D : va_G} {cyI cyF cyM : ClassId} {t0 : Nat} (hts : ∀ w ∈ lw_tbl, w.before args s = true) (hK : va_K D vwCl (xTys cyI cyF cyM) s) (hZ : va_Z RX0 "FORMS" "[I" (.ref t0) (fun q => s.heap.size ≤ q) s s.heap) (hT : va_T .int t0 16 (fun j => .int (xForm j)) (fun q => s.heap.size ≤ q) s s.heap) {V : Nat → Nat → Prop} {la : Nat → Nat → Nat} (hD : xD V la) (hV : ∀ c i, V c i → s.heap.size ≤ la c i) : xStat D V la cyI cyF cyM t0 s s.heap := by
  have hAB : ∀ q, xA V la q → s.heap.size ≤ q := fun q z => by obtain ⟨c, i, z1, rfl⟩ := z; exact hV c i z1
  exact ⟨hD, hK, va_Nw.of rfl (hts _ nl_X3_25), va_Nw.of rfl (hts _ nl_X6_145), hZ.narrow hAB, hT.narrow hAB⟩
section XS
variable {p : Program} {l : Launch} {e : Env} {R : Room} {s : State} {m : MethodId} {args : Array Value} {below : List Frame} {meth : Method} {c : Code} {H : Heap} {locs : List Loc} {cells slots : Nat} {Q : State → Prop}
variable {cc : ByteArray} {nL pc : Nat} {ls : Array Slot} {rest : List Value} {D : va_G} {V : Nat → Nat → Prop} {la : Nat → Nat → Nat} {E : xEn} {cyI cyF cyM : ClassId} {sz0 : Nat} {own : String} {H0 : Heap}
theorem L_new (S : CallFix p m c cc nL s args xALL own) (hK : va_K D vwCl (xTys cyI cyF cyM) s) (hN : xNew D sz0 V la E H) (hS : va_S (fun q => sz0 ≤ q) H0 H locs) (c0 i0 : Nat) (hnew : ¬ V c0 i0) {C : String} {T : u_T} {N ci : Nat} (hc : vwCl[ci]? = some (C, T, N)) (hin : ∀ w ∈ u_ws C T N, w ∈ xALL) (ty : Nat → FieldType) (hty : ∀ k, k < N → parseFieldDescriptor (T k).2.2.1 = some (ty k)) {index : Nat} (hcl : Cond.classLink own index C ∈ xALL) (hit : Cond.instantiable C N ∈ xALL) (hini : Cond.initialized C ∈ xALL) (fs : List Value) (hfs : ∀ j, j < N → defaultValue (ty j) = vp_V fs j) (hcells : cells + 1 ≤ R.cells) (hslots : slots + N ≤ R.slots) (hdg : decode cc pc = .ok (.new index, 3))
    (kk : ∀ (a : Nat) (H1 : Heap), H.size = a → xNew D sz0 (xVa V c0 i0) (xLa la c0 i0 a) (xU E c0 i0 (.inr (ci, fs))) H1 → va_S (fun q => sz0 ≤ q) H0 H1 locs → W p l e R s m args below meth c H1 locs (cells + 1) (slots + N) Q (F0 m (pc + 3) ls (.ref a :: rest))) : W p l e R s m args below meth c H locs cells slots Q (F0 m pc ls rest) := by
  have hKn := hK.1 ci _ hc
  refine W.newcK S.1 S.2.1 S.2.2.2.1 (S.2.2.2.2 _ hcl) (S.2.2.2.2 _ hit) (S.2.2.2.2 _ hini) rfl hdg hcells hslots hKn.2.1 rfl fun H1 kC hkC e1 z1 o1 => ?_
  exact kk H.size H1 rfl (hN.alloc hnew rfl z1 o1 ⟨_, hc, (u_born ty S.2.2.2.2 hin hKn hkC e1 hty).to hfs⟩) ⟨Nat.le_trans hS.1 (by omega), fun x h1 h2 => (o1 x (Nat.lt_of_lt_of_le h1 hS.1)).trans (hS.2.1 x h1 h2), hS.2.2⟩
theorem L_callI {y : MethodName} {bytes : ByteArray} {maxL n index b : Nat} {rm : Room} {As : List Value} {st0 : List Value} {post : (Nat → Nat → Prop) → (Nat → Nat → Nat) → xEn → Prop} (S : CallFix p m c cc nL s args xALL own) (hK : va_K D vwCl (xTys cyI cyF cyM) s) (hNe : iNest s) (hM : MetI D cyI cyF cyM sz0 l y (Cond.code y bytes maxL none :: xALL) rm (.ref b :: As) V la E post) (hN : xNew D sz0 V la E H) (hS : va_S (fun q => sz0 ≤ q) H0 H locs) (hstk : st0 = As.reverse ++ .ref b :: rest) (K : xKi y bytes maxL n) (hlink : Cond.methodLink own index y ∈ xALL) (hR : rm.frames + 1 ≤ R.frames ∧ 8 + (maxL + 11) + rm.locals ≤ R.locals) (hn : As.length = n) (hsz : ls.size = nL) (hW : (rest.map fun v => v.category).sum ≤ 8) (hcs : cells + rm.cells ≤ R.cells ∧ slots + rm.slots ≤ R.slots) (hdg : decode cc pc = .ok (.invokespecial index, 3))
    (kk : ∀ (V' : Nat → Nat → Prop) (la' : Nat → Nat → Nat) (E' : xEn) (H1 : Heap) (locs1 : List Loc), xNew D sz0 V' la' E' H1 → post V' la' E' → va_S (fun q => sz0 ≤ q) H0 H1 locs1 → W p l e R s m args below meth c H1 locs1 (cells + rm.cells) (slots + rm.slots) Q (F0 m (pc + 3) ls rest)) : W p l e R s m args below meth c H locs cells slots Q (F0 m pc ls st0) := by
  obtain ⟨k1, k2, k3, k4, k5⟩ := K
  subst hstk
  exact i_run (va_runI S hM ⟨callB_of n S.2.2.2.2 (fun w h => ⟨(List.mem_cons.mp h).elim (fun z => z ▸ k1) id, (List.mem_cons.mp h).elim (fun z => xALL_good _ (z ▸ k1)) (xALL_good _)⟩) rfl rfl rfl (S.2.2.2.2 _ k3) (S.2.2.2.2 _ hlink) k5 hR, k4, S.2.2.2.2 _ k2⟩
    ⟨iPre.blind, fun U hU hWm => ⟨rfl, by rw [hU]; exact hN, va_K.moved hWm.alike hK, hNe.moved hWm⟩⟩ rfl hn hsz rfl (lv_room hW) hdg hcs) hS kk
theorem L_cell {b L : Nat} {xs : Nat → Int32} (S : CallFix p m c cc nL s args xALL RL) (hX : va_X b L xs s s.heap) (hbl : b < s.heap.size) (hL : L ≤ 2561) (hS : va_S (fun q => s.heap.size ≤ q) s.heap H locs) (hsz : ls.size = nL) (hR : 1 ≤ R.frames ∧ 21 ≤ R.locals) (hcs : cells ≤ R.cells ∧ slots ≤ R.slots) (hW : (rest.map fun v => v.category).sum ≤ 8) (hdg : decode cc pc = .ok (.invokestatic 22, 3))
    (kk : ∀ (H1 : Heap) (locs1 : List Loc), H1 = H → va_S (fun q => s.heap.size ≤ q) s.heap H1 locs1 → W p l e R s m args below meth c H1 locs1 cells slots Q (F0 m (pc + 3) ls (.int (if L = 0 then 0 else xs 0) :: rest))) : W p l e R s m args below meth c H locs cells slots Q (F0 m pc ls (.int 0 :: .ref b :: rest)) := by
  have hr := va_runS (H := H) (locs := locs) (cells := cells) (slots := slots) (e := e) (R := R) (below := below) (meth := meth) (l := l) (g := F0 m pc ls (.int 0 :: .ref b :: rest)) (rest := rest) (As := [.ref b, .int 0]) S (TL_cell l (b := b) (xs := xs) hL) ⟨callB_of 2 S.2.2.2.2 (fun w h => ⟨(List.mem_cons.mp h).elim (fun z => z ▸ cd_L_cell) id, (List.mem_cons.mp h).elim (fun z => xALL_good _ (z ▸ cd_L_cell)) (xALL_good _)⟩) rfl rfl rfl (S.2.2.2.2 _ in_L) (S.2.2.2.2 _ ml_L_22) (by decide +kernel) ⟨by simp; omega, by simp; omega⟩, S.2.2.2.2 _ ss_L_cell⟩
    ⟨fun a U g mk q => ⟨q.1, va_X.moved (u := U) (U := U.calling g mk a) (Vm.Alike.refl U.vm) q.2⟩, fun U hU hWm => ⟨rfl, by show va_X b L xs U U.heap; rw [hU]; exact va_X.moved hWm.alike (hX.kept (hS.2.1 b hbl (Nat.not_le.mpr hbl)))⟩⟩ rfl rfl hsz rfl (lv_room hW) hdg hcs
  intro T hT X
  obtain ⟨v, st₀, t, T', L', h0, X', hL', e1, e2, ⟨hv, hh⟩, stp⟩ := hr T hT X
  cases hv
  have hH1 : T'.heap = H := by rw [e1, hh, h0]
  obtain ⟨t2, a1, b1⟩ := kk T'.heap (locs ++ L') hH1 ⟨by rw [hH1]; exact hS.1, fun q h1 h2 => by rw [hH1]; exact hS.2.1 q h1 h2, fun q hq => (List.mem_append.mp hq).elim (hS.2.2 q) (fun z => absurd (hL' q z) id)⟩ T' rfl X'
  exact ⟨t2, stp t2 a1, b1⟩
end XS
