theorem mrf_la {mo : Nat} {l1 l2 : Nat → Nat → Nat} (h : ∀ c i, VC mo c i → l2 c i = l1 c i) (k : Nat) : mrf l2 mo k = mrf l1 mo k := by
  unfold mrf
  split
  · rfl
  · rw [h 3 _ (VC_m mo _)]
theorem ECf_xEq {cyI cyF cyM : ClassId} {mo : Nat} {l1 l2 : Nat → Nat → Nat} (h : ∀ c i, VC mo c i → l2 c i = l1 c i) (g : Nat → Int32) (q : Nat → Nat → Nat) {c i : Nat} (hV : VC mo c i) : xEq (ECf cyI cyF cyM mo l1 g q c i) (ECf cyI cyF cyM mo l2 g q c i) := by
  have v20 : ∀ i, i < 7 → VC mo 20 i := fun i h => h
  unfold VC at hV
  split at hV
  · exact xEq.of (by simp only [ECf]; rw [h 21 i hV, mrf_la h])
  · exact xEq.of (by simp only [ECf]; rw [h 22 i hV])
  · exact xEq.of (by simp only [ECf]; rw [h 20 3 (v20 3 (by omega)), h 7 0 rfl])
  · exact xEq.of rfl
  · exact xEq.of (by simp only [ECf]; rw [h 5 0 rfl, h 20 4 (v20 4 (by omega)), h 4 0 rfl, h 7 0 rfl, h 20 1 (v20 1 (by omega)), h 20 0 (v20 0 (by omega)), h 23 0 rfl, h 20 5 (v20 5 (by omega)), h 20 6 (v20 6 (by omega)), h _ _ (VC_rw mo _)])
  · exact xEq.of (by simp only [ECf]; rw [h 24 0 rfl, h 20 0 (v20 0 (by omega))])
  · exact xEq.of (by simp only [ECf]; rw [h 20 0 (v20 0 (by omega)), h 20 1 (v20 1 (by omega)), h 20 2 (v20 2 (by omega)), h 7 0 rfl, h 4 0 rfl, h 6 0 rfl])
  · exact xEq.of rfl
  · exact xEq.of rfl
  · exact xEq.of rfl
  · exact xEq.arr (fun j hj => by rw [h 2 j hj])
  · exact xEq.arr (fun j hj => by rw [h 3 _ (VC_m mo _)])
  · exact absurd hV id
theorem VC_no {mo c i : Nat} (h : VC mo c i) : c ≠ 9 ∧ c ≠ 30 := by
  unfold VC at h
  split at h <;> first | exact absurd h id | omega
theorem VM_is {c i : Nat} (h : VM c i) : (c = 9 ∧ i = 0) ∨ (c = 30 ∧ 0 < lenM i) := by
  unfold VM at h
  split at h
  · exact Or.inl ⟨rfl, h⟩
  · exact Or.inr ⟨rfl, h⟩
  · exact absurd h id
set_option maxHeartbeats 8000000 in
set_option maxRecDepth 100000 in
theorem whole_start {p : Program} {e : Env} {s : State} {m : MethodId} {below : List Frame} {meth : Method} {c : Code} (l : Launch) (hlt : l.stackTraces = false) {b L : Nat} {xs : Nat → Int32} (hL : L ≤ 2561) (C0 : lw_At p s m meth c b L xs) : W p l e room_1 s m #[Value.ref b] below meth c s.heap [] 0 0 (lw_Z below #[Value.ref b] s) (entryFrame m ([Value.ref b] : List Value).toArray 7) := by
  obtain ⟨hx, hb, hr, hml, hown, hts, hX, hbl, hlk, hgv⟩ := C0
  have S : CallFix p m c cL_law 7 s #[Value.ref b] xALL RL := ⟨hx, hb, hml, hown, fun w hw => hts w (xALL_tbl w hw)⟩
  obtain ⟨D, cyI, cyF, cyM, cyJ, hK, hNe, hJ, hJn⟩ := law_base hts
  obtain ⟨t0, hZ, hT⟩ := law_forms hts hgv
  obtain ⟨sa, sb, hTS⟩ := law_thr hts hgv
  obtain ⟨mo, hmo, hm1, hm2⟩ := clamp_mo (if L = 0 then 0 else xs 0)
  have hS : va_S (fun q => s.heap.size ≤ q) s.heap s.heap [] := va_S.rf
  have hN0 : xNew D s.heap.size (fun _ _ => False) (fun _ _ => 0) (fun _ _ => .inr (0, [])) s.heap := ⟨fun _ _ h => h.elim, fun _ _ _ _ h => h.elim, fun _ _ h => h.elim, Nat.le_refl _⟩
  have hl := lv_entry [Value.ref b] (n := 7) (Nat.le_of_ble_eq_true rfl)
  rw [lg_entry_eq]
  generalize (lg_sl [Value.ref b] ++ List.replicate (7 - (lg_sl [Value.ref b]).length) Slot.unset).toArray = ls at hl ⊢
  replace hl : lv_has ls 7 [(0, .ref b)] := hl
  refine L_new S hK hN0 hS 8 0 id (ci := 8) rfl la_X8 tyX8 tyX8_ok cl_L_8 it_X8 in_X8 [.null, .null, .null, .null, .null, .null, .int 0] (fun j hj => by rcases (show j = 0 ∨ j = 1 ∨ j = 2 ∨ j = 3 ∨ j = 4 ∨ j = 5 ∨ j = 6 by omega) with rfl | rfl | rfl | rfl | rfl | rfl | rfl <;> rfl) (by decide) (by decide) dL_law_0 (fun a8 H1 ea hN hS => ?_)
  refine lv_dup hx hb dL_law_3 rfl ?_
  refine lv_aload_n hx hb dL_law_4 rfl (lv_at hl 0 rfl) ?_
  refine lv_iconst (v := 0) hx hb dL_law_5 (by decide) ?_
  refine L_cell S hX hbl hL hS hl.1 ⟨by decide, by decide⟩ ⟨by decide, by decide⟩ (Nat.le_of_ble_eq_true rfl) dL_law_6 (fun H2 locs2 e2 hS2 => ?_)
  subst e2
  refine L_callI S hK hNe (TX8_init l (mo := mo) a8 hmo hm2 (fun c i => ⟨fun z => z.elim False.elim id, Or.inr⟩) (by unfold xLa; rw [if_pos ⟨rfl, rfl⟩]) (by unfold xU; rw [if_pos ⟨rfl, rfl⟩])) hN hS2 rfl KX8_init ml_L_28 ⟨by decide, by decide⟩ rfl hl.1 (Nat.le_of_ble_eq_true rfl) ⟨by decide, by decide⟩ dL_law_9 (fun V1 l1 E1 H3 locs3 hN hp hS => ?_)
  obtain ⟨v1, p8, hE1⟩ := hp
  refine lv_astore_n (i := 1) (lv' := [(1, .ref a8), (0, .ref b)]) hx hb dL_law_12 rfl hl (by decide) rfl (fun ls hl => ?_)
  have hn9 : ∀ i, ¬ V1 9 i := fun i z => (VC_no ((v1 9 i).mp z)).1 rfl
  have hn30 : ∀ i, ¬ V1 30 i := fun i z => (VC_no ((v1 30 i).mp z)).2 rfl
  refine L_new S hK hN hS 9 0 (hn9 0) (ci := 9) rfl la_X9 tyX9 tyX9_ok cl_L_31 it_X9 in_X9 [.int 0, .null, .null, .null, .null, .int 0, .int 0, .null, .null, .null, .int 0, .int 0, .int 0, .int 0, .int 0, .int 0, .int 0, .int 0, .int 0, .int 0, .int 0, .int 0, .null, .int 0, .int 0, .null, .null, .int 0, .int 0, .int 0, .int 0, .null, .null, .null, .null, .null, .null, .null, .null, .int 0, .int 0, .int 0, .int 0, .int 0, .int 0, .int 0, .int 0] (fun j hj => by
    match j, hj with
    | 0, _ => rfl
    | 1, _ => rfl
    | 2, _ => rfl
    | 3, _ => rfl
    | 4, _ => rfl
    | 5, _ => rfl
    | 6, _ => rfl
    | 7, _ => rfl
    | 8, _ => rfl
    | 9, _ => rfl
    | 10, _ => rfl
    | 11, _ => rfl
    | 12, _ => rfl
    | 13, _ => rfl
    | 14, _ => rfl
    | 15, _ => rfl
    | 16, _ => rfl
    | 17, _ => rfl
    | 18, _ => rfl
    | 19, _ => rfl
    | 20, _ => rfl
    | 21, _ => rfl
    | 22, _ => rfl
    | 23, _ => rfl
    | 24, _ => rfl
    | 25, _ => rfl
    | 26, _ => rfl
    | 27, _ => rfl
    | 28, _ => rfl
    | 29, _ => rfl
    | 30, _ => rfl
    | 31, _ => rfl
    | 32, _ => rfl
    | 33, _ => rfl
    | 34, _ => rfl
    | 35, _ => rfl
    | 36, _ => rfl
    | 37, _ => rfl
    | 38, _ => rfl
    | 39, _ => rfl
    | 40, _ => rfl
    | 41, _ => rfl
    | 42, _ => rfl
    | 43, _ => rfl
    | 44, _ => rfl
    | 45, _ => rfl
    | 46, _ => rfl
    | n + 47, hj => omega) (by decide) (by decide) dL_law_13 (fun a9 H4 ea9 hN hS => ?_)
  refine lv_dup hx hb dL_law_16 rfl ?_
  refine lv_aload_n hx hb dL_law_17 rfl (lv_at hl 1 rfl) ?_
  refine lv_iconst (v := 0) hx hb dL_law_18 (by decide) ?_
  refine L_cell S hX hbl hL hS hl.1 ⟨by decide, by decide⟩ ⟨by decide, by decide⟩ (Nat.le_of_ble_eq_true rfl) dL_law_19 (fun H5 locs5 e5 hS5 => ?_)
  subst e5
  refine L_callI S hK hNe (TX9_init l (mo := mo) a9 hm1 (Or.inr ⟨rfl, rfl⟩) (by unfold xLa; rw [if_pos ⟨rfl, rfl⟩]) (by unfold xU; rw [if_pos ⟨rfl, rfl⟩]) (fun i z => z.elim (hn30 i) (fun z => by omega))) hN hS5 rfl KX9_init ml_L_33 ⟨by decide, by decide⟩ rfl hl.1 (Nat.le_of_ble_eq_true rfl) ⟨by decide, by decide⟩ dL_law_22 (fun V2 l2 E2 H6 locs6 hN hp hS => ?_)
  obtain ⟨v2, hl2, hE2, hE9, hE30⟩ := hp
  refine lv_astore_n (i := 2) (lv' := [(2, .ref a9), (1, .ref a8), (0, .ref b)]) hx hb dL_law_25 rfl hl (by decide) rfl (fun ls hl => ?_)
  refine lv_iconst (v := 1) hx hb dL_law_26 (by decide) ?_
  refine va_newaK (atype := .long) (N := 1) hx hb (S.2.2.2.2 _ ac_long) rfl dL_law_27 rfl (by decide) (by decide) (by decide) (by decide) (by decide) rfl fun H7 cA e1 z1 o1 hAr hNm => ?_
  have hcA : cA = cyJ := Option.some.inj (hNm.symm.trans hJn)
  subst hcA
  have hS7 : va_S (fun q => s.heap.size ≤ q) s.heap H7 locs6 := ⟨Nat.le_trans hS.1 (by omega), fun x h1 h2 => (o1 x (Nat.lt_of_lt_of_le h1 hS.1)).trans (hS.2.1 x h1 h2), hS.2.2⟩
  refine lv_astore_n (i := 3) (lv' := [(3, .ref H6.size), (2, .ref a9), (1, .ref a8), (0, .ref b)]) hx hb dL_law_29 rfl hl (by decide) rfl (fun ls hl => ?_)
  refine lv_iconst (v := 1) hx hb dL_law_30 (by decide) ?_
  refine lv_istore (i := 4) (lv' := [(4, .int 1), (3, .ref H6.size), (2, .ref a9), (1, .ref a8), (0, .ref b)]) hx hb dL_law_31 hl (by decide) rfl (fun ls hl => ?_)
  -- the two worlds as the loop has them
  have mC : ∀ c i, VC mo c i → V2 c i := fun c i h => (v2 c i).mpr (Or.inl (Or.inl ((v1 c i).mpr h)))
  have mM : ∀ c i, VM c i → V2 c i := fun c i h => (v2 c i).mpr (by
    rcases VM_is h with ⟨rfl, rfl⟩ | ⟨rfl, h⟩
    · exact Or.inl (Or.inr ⟨rfl, rfl⟩)
    · exact Or.inr ⟨rfl, h⟩)
  have la1 : ∀ c i, VC mo c i → l2 c i = l1 c i := fun c i h => by
    rw [hl2 c i (Or.inl ((v1 c i).mpr h))]
    unfold xLa
    rw [if_neg (fun z => (VC_no h).1 z.1)]
  have e8 : l2 8 0 = a8 := by rw [la1 8 0 rfl]; exact p8
  have e9 : l2 9 0 = a9 := by
    rw [hl2 9 0 (Or.inr ⟨rfl, rfl⟩)]
    unfold xLa
    rw [if_pos ⟨rfl, rfl⟩]
  have hlt2 : ∀ c i, V2 c i → l2 c i < H6.size := fun c i h => hN.lt h
  have hC : HW D (VC mo) l2 (ECf cyI cyF cyM mo l2) (c0St mo) H6 := by
    intro c i h
    have hv1 := (v1 c i).mpr h
    have z := hN.1 c i (mC c i h)
    rw [hE2 c i (Or.inl hv1) (fun z => (VC_no h).1 z.1)] at z
    unfold xU at z
    rw [if_neg (fun z => (VC_no h).1 z.1)] at z
    exact ECf_xEq la1 _ _ h D _ H6 (hE1 c i h D _ H6 z)
  have hM : HW D VM l2 (EMf cyI l2) (m0St mo) H6 := by
    intro c i h
    have z := hN.1 c i (mM c i h)
    rcases VM_is h with ⟨rfl, rfl⟩ | ⟨rfl, h⟩
    · rw [hE9] at z; exact z
    · rw [hE30 i h] at z; exact z
  have kC : HW D (VC mo) l2 (ECf cyI cyF cyM mo l2) (c0St mo) H7 := xP.kept hC (fun c i h => o1 _ (hlt2 c i (mC c i h)))
  have kM : HW D VM l2 (EMf cyI l2) (m0St mo) H7 := xP.kept hM (fun c i h => o1 _ (hlt2 c i (mM c i h)))
  have bC : ∀ c i, VC mo c i → s.heap.size ≤ l2 c i := fun c i h => hN.2.2.1 c i (mC c i h)
  have bM : ∀ c i, VM c i → s.heap.size ≤ l2 c i := fun c i h => hN.2.2.1 c i (mM c i h)
  have dC : xD (VC mo) l2 := fun c i c' i' h h' e => hN.2.1 c i c' i' (mC c i h) (mC c' i' h') e
  have dM : xD VM l2 := fun c i c' i' h h' e => hN.2.1 c i c' i' (mM c i h) (mM c' i' h') e
  have hF : lawFix p l s m meth c D l2 cyI cyF cyM cA t0 sa sb H6.size mo 1000 b L xs Sim := ⟨S, hr, hlk, hlt, hX, hbl, hL, hmo, law_stat hts hK hZ hT dC bC, law_stat hts hK hZ hT dM bM, hTS _ _ bC, hJ, bC, bM, fun z => by
      obtain ⟨c, i, z1, z2⟩ := z
      have := hlt2 c i (mC c i z1)
      omega, fun z => by
      obtain ⟨c, i, z1, z2⟩ := z
      have := hlt2 c i (mM c i z1)
      omega, hN.2.2.2, fun c i c' i' h h' e => by
      obtain ⟨z1, z2⟩ := hN.2.1 c i c' i' (mC c i h) (mM c' i' h') e
      have n := VC_no h
      rcases VM_is h' with ⟨y, _⟩ | ⟨y, _⟩ <;> omega, sim_ops⟩
  have hlast := law_loop (e := e) (below := below) hF Sim_mono 514 0 (by omega) (by omega) 1 (by decide) (c0St mo) (m0St mo) (sim_start hmo) H7 locs6 ⟨kC, kM, 0, e1⟩ hS7 ls (by rw [e8, e9]; exact lv_sub hl [4, 3, 2, 1, 0] rfl)
  exact hlast
