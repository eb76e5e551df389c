set_option maxHeartbeats 4000000 in
set_option maxRecDepth 100000 in
/-- the law's loop -/
theorem law_loop {p : Program} {l : Launch} {e : Env} {s : State} {m : MethodId} {below : List Frame} {meth : Method} {c : Code} {D : va_G} {la : Nat → Nat → Nat} {cyI cyF cyM cyJ : ClassId} {t0 sa sb ao mo N b L : Nat} {xs : Nat → Int32} {Sim : Nat → Nat → xSt → xSt → Prop} (hF : lawFix p l s m meth c D la cyI cyF cyM cyJ t0 sa sb ao mo N b L xs Sim) (hmono : ∀ mo t sC sM, Sim mo t sC sM → Sim mo (t + 1) sC sM) :
    ∀ (n t : Nat), 513 - t < n → t ≤ 512 → ∀ (x4 : Int32), x4 = nI (1 + 5 * t) → ∀ (sC sM : xSt), Sim mo t sC sM → ∀ (H : Heap) (locs : List Loc), lawHp D la cyI cyF cyM cyJ ao mo sC sM H → va_S (fun q => s.heap.size ≤ q) s.heap H locs → ∀ ls : Array Slot, lv_has ls 7 [(0, .ref b), (1, .ref (la 8 0)), (2, .ref (la 9 0)), (3, .ref ao), (4, .int x4)] →
      lawW p l e s m below meth c b H locs (102 + t) (17282 + 6 * t) (F0 m 33 ls []) := by
  obtain ⟨S, hr, hlk, hlt, hX, hbl, hL, hmo, hxC, hxM, hTS, hJ, hVC, hVM, haC, haM, hao0, hdis, hOps⟩ := id hF
  have hx := S.1
  have hb := S.2.1
  have hbA : ¬ (fun q => s.heap.size ≤ q) b := Nat.not_le.mpr hbl
  intro n
  induction n with
  | zero => intro t h; omega
  | succ n ih =>
    intro t hn ht x4 ex4 sC sM hSim H locs hH hS ls hl
    refine lv_iload hx hb dL_law_33 (lv_at hl 4 rfl) ?_
    refine lv_aload_n hx hb dL_law_35 rfl (lv_at hl 0 rfl) ?_
    refine va_slen hx hb hX hbl hbA hS dL_law_36 ?_
    refine lv_iconst (v := 5) hx hb dL_law_37 (by decide) ?_
    refine lv_isub hx hb dL_law_38 ?_
    refine lv_icmp_gt (tgt := 702) hx hb dL_law_39 (by decide) (fun c1 => ?_) (fun c1 => ?_)
    · refine lv_iconst (v := 1) hx hb dL_law_702 (by decide) ?_
      refine va_forget hS.2.2 ?_
      refine W.widen (k := 603072) (n := 7218911) (by omega) (by omega) ?_
      exact lw_ret hx hb hr hlk dL_law_703
    · have hi : 1 + 5 * t + 5 ≤ L := by
        rw [ex4, lw_cond hL (by omega)] at c1
        omega
      have ht' : t < 512 := by omega
      have back : lawBack p l e s m below meth c D la cyI cyF cyM cyJ ao mo b t x4 Sim := by
        intro sC' sM' H' locs' ls' hSim' hH' hS' hl'
        obtain ⟨x5, ex⟩ : ∃ y : Int32, y = x4 + 5 := ⟨_, rfl⟩
        refine lv_iinc (v := x5) (lv' := [(4, .int x5), (0, .ref b), (1, .ref (la 8 0)), (2, .ref (la 9 0)), (3, .ref ao)]) hx hb dL_law_696 hl' (k := 4) rfl (by rw [ex]; rfl) (by decide) rfl (fun ls hl => ?_)
        refine lv_goto (tgt := 33) hx hb dL_law_699 (by decide) ?_
        refine ih (t + 1) (by omega) (by omega) x5 ?_ sC' sM' hSim' H' locs' hH' hS' ls (lv_sub hl [1, 2, 3, 4, 0] rfl)
        rw [ex, ex4]
        show nI (1 + 5 * t) + nI 5 = _
        exact (nI_add _ _).trans (congrArg nI (by omega))
      have v0 : vp_in x4 L := by rw [ex4]; exact vp_in_nI (by omega) (by omega)
      refine lv_aload_n hx hb dL_law_42 rfl (lv_at hl 0 rfl) ?_
      refine lv_iload hx hb dL_law_43 (lv_at hl 4 rfl) ?_
      refine va_sld hx hb hX hbl hbA hS v0 dL_law_45 ?_
      refine lv_bipush (v := 15) hx hb dL_law_46 (by decide) ?_
      refine lv_iand hx hb dL_law_48 ?_
      refine lv_topi (fun z ez => ?_)
      by_cases c2 : z = (0 : Int32)
      · refine w_stk (st1 := .int (0 : Int32) :: _) (by rw [c2]) ?_
        refine lv_tableIn (off := 75) (tgt := 124) hx hb dL_law_49 (by decide) (by decide) (by decide) (by decide) ?_
        exact lw_case_poke hF ht' hi ex4 hSim hH hS hl back
      by_cases c3 : z = (1 : Int32)
      · refine w_stk (st1 := .int (1 : Int32) :: _) (by rw [c3]) ?_
        refine lv_tableIn (off := 143) (tgt := 192) hx hb dL_law_49 (by decide) (by decide) (by decide) (by decide) ?_
        exact lw_case_feed hF ht' hi ex4 hSim hH hS hl back
      by_cases c4 : z = (2 : Int32)
      · refine w_stk (st1 := .int (2 : Int32) :: _) (by rw [c4]) ?_
        refine lv_tableIn (off := 224) (tgt := 273) hx hb dL_law_49 (by decide) (by decide) (by decide) (by decide) ?_
        exact lw_case_peek hF ht' hi ex4 hSim hH hS hl back
      by_cases c5 : z = (3 : Int32)
      · refine w_stk (st1 := .int (3 : Int32) :: _) (by rw [c5]) ?_
        refine lv_tableIn (off := 280) (tgt := 329) hx hb dL_law_49 (by decide) (by decide) (by decide) (by decide) ?_
        exact lw_case_global hF ht' hi ex4 hSim hH hS hl back
      by_cases c6 : z = (4 : Int32)
      · refine w_stk (st1 := .int (4 : Int32) :: _) (by rw [c6]) ?_
        refine lv_tableIn (off := 348) (tgt := 397) hx hb dL_law_49 (by decide) (by decide) (by decide) (by decide) ?_
        exact lw_case_make hF ht' hi ex4 hSim hH hS hl back
      by_cases c7 : z = (5 : Int32)
      · refine w_stk (st1 := .int (5 : Int32) :: _) (by rw [c7]) ?_
        refine lv_tableIn (off := 373) (tgt := 422) hx hb dL_law_49 (by decide) (by decide) (by decide) (by decide) ?_
        exact lw_case_place hF ht' hi ex4 hSim hH hS hl back
      by_cases c8 : z = (6 : Int32)
      · refine w_stk (st1 := .int (6 : Int32) :: _) (by rw [c8]) ?_
        refine lv_tableIn (off := 386) (tgt := 435) hx hb dL_law_49 (by decide) (by decide) (by decide) (by decide) ?_
        exact lw_case_argument hF ht' hi ex4 hSim hH hS hl back
      by_cases c9 : z = (7 : Int32)
      · refine w_stk (st1 := .int (7 : Int32) :: _) (by rw [c9]) ?_
        refine lv_tableIn (off := 423) (tgt := 472) hx hb dL_law_49 (by decide) (by decide) (by decide) (by decide) ?_
        exact lw_case_call hF ht' hi ex4 hSim hH hS hl back
      by_cases c10 : z = (8 : Int32)
      · refine w_stk (st1 := .int (8 : Int32) :: _) (by rw [c10]) ?_
        refine lv_tableIn (off := 460) (tgt := 509) hx hb dL_law_49 (by decide) (by decide) (by decide) (by decide) ?_
        exact lw_case_walk hF ht' hi ex4 hSim hH hS hl back
      by_cases c11 : z = (9 : Int32)
      · refine w_stk (st1 := .int (9 : Int32) :: _) (by rw [c11]) ?_
        refine lv_tableIn (off := 497) (tgt := 546) hx hb dL_law_49 (by decide) (by decide) (by decide) (by decide) ?_
        exact lw_case_result hF ht' hi ex4 hSim hH hS hl back
      by_cases c12 : z = (10 : Int32)
      · refine w_stk (st1 := .int (10 : Int32) :: _) (by rw [c12]) ?_
        refine lv_tableIn (off := 510) (tgt := 559) hx hb dL_law_49 (by decide) (by decide) (by decide) (by decide) ?_
        exact lw_case_fault hF ht' hi ex4 hSim hH hS hl back
      by_cases c13 : z = (11 : Int32)
      · refine w_stk (st1 := .int (11 : Int32) :: _) (by rw [c13]) ?_
        refine lv_tableIn (off := 535) (tgt := 584) hx hb dL_law_49 (by decide) (by decide) (by decide) (by decide) ?_
        exact lw_case_accelerate hF ht' hi ex4 hSim hH hS hl back
      by_cases c14 : z = (12 : Int32)
      · refine w_stk (st1 := .int (12 : Int32) :: _) (by rw [c14]) ?_
        refine lv_tableIn (off := 572) (tgt := 621) hx hb dL_law_49 (by decide) (by decide) (by decide) (by decide) ?_
        exact lw_case_kept hF ht' hi ex4 hSim hH hS hl back
      by_cases c15 : z = (13 : Int32)
      · refine w_stk (st1 := .int (13 : Int32) :: _) (by rw [c15]) ?_
        refine lv_tableIn (off := 597) (tgt := 646) hx hb dL_law_49 (by decide) (by decide) (by decide) (by decide) ?_
        exact lw_case_drop hF ht' hi ex4 hSim hH hS hl back
      by_cases c16 : z = (14 : Int32)
      · refine w_stk (st1 := .int (14 : Int32) :: _) (by rw [c16]) ?_
        refine lv_tableIn (off := 622) (tgt := 671) hx hb dL_law_49 (by decide) (by decide) (by decide) (by decide) ?_
        exact lw_case_count hF ht' hi ex4 hSim hH hS hl back
      have g0 := lv_neT c2 (show (0 : Int32).toInt = 0 by decide)
      have g1 := lv_neT c3 (show (1 : Int32).toInt = 1 by decide)
      have g2 := lv_neT c4 (show (2 : Int32).toInt = 2 by decide)
      have g3 := lv_neT c5 (show (3 : Int32).toInt = 3 by decide)
      have g4 := lv_neT c6 (show (4 : Int32).toInt = 4 by decide)
      have g5 := lv_neT c7 (show (5 : Int32).toInt = 5 by decide)
      have g6 := lv_neT c8 (show (6 : Int32).toInt = 6 by decide)
      have g7 := lv_neT c9 (show (7 : Int32).toInt = 7 by decide)
      have g8 := lv_neT c10 (show (8 : Int32).toInt = 8 by decide)
      have g9 := lv_neT c11 (show (9 : Int32).toInt = 9 by decide)
      have g10 := lv_neT c12 (show (10 : Int32).toInt = 10 by decide)
      have g11 := lv_neT c13 (show (11 : Int32).toInt = 11 by decide)
      have g12 := lv_neT c14 (show (12 : Int32).toInt = 12 by decide)
      have g13 := lv_neT c15 (show (13 : Int32).toInt = 13 by decide)
      have g14 := lv_neT c16 (show (14 : Int32).toInt = 14 by decide)
      refine lv_tableOut (tgt := 696) hx hb dL_law_49 (by omega) (by decide) ?_
      obtain ⟨x5, ex⟩ : ∃ y : Int32, y = x4 + 5 := ⟨_, rfl⟩
      refine lv_iinc (v := x5) (lv' := [(4, .int x5), (0, .ref b), (1, .ref (la 8 0)), (2, .ref (la 9 0)), (3, .ref ao)]) hx hb dL_law_696 hl (k := 4) rfl (by rw [ex]; rfl) (by decide) rfl (fun ls hl => ?_)
      refine lv_goto (tgt := 33) hx hb dL_law_699 (by decide) ?_
      refine W.widen (k := 102 + (t + 1)) (n := 17282 + 6 * (t + 1)) (by omega) (by omega) ?_
      refine ih (t + 1) (by omega) (by omega) x5 ?_ sC sM (hmono mo t sC sM hSim) H locs hH hS ls (lv_sub hl [1, 2, 3, 4, 0] rfl)
      rw [ex, ex4]
      show nI (1 + 5 * t) + nI 5 = _
      exact (nI_add _ _).trans (congrArg nI (by omega))
