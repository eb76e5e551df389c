/-- what stands fixed during the law's loop -/
def lawFix (p : Program) (l : Launch) (s : State) (m : MethodId) (meth : Method) (c : Code) (D : va_G) (la : Nat → Nat → Nat) (cyI cyF cyM cyJ : ClassId) (t0 sa sb ao mo N b L : Nat) (xs : Nat → Int32) (Sim : Nat → Nat → xSt → xSt → Prop) : Prop :=
  CallFix p m c cL_law 7 s #[Value.ref b] xALL RL ∧ meth.sig.returnType = ret ∧ meth.locks = false ∧ l.stackTraces = false ∧ va_X b L xs s s.heap ∧ b < s.heap.size ∧ L ≤ 2561 ∧ mo ≤ 20 ∧
  xStat D (VC mo) la cyI cyF cyM t0 s s.heap ∧ xStat D VM la cyI cyF cyM t0 s s.heap ∧ xTS (VC mo) la sa sb s s.heap ∧ ArrOfT s cyJ .long ∧ (∀ c i, VC mo c i → s.heap.size ≤ la c i) ∧ (∀ c i, VM c i → s.heap.size ≤ la c i) ∧ ¬ xA (VC mo) la ao ∧ ¬ xA VM la ao ∧ s.heap.size ≤ ao ∧ (∀ c i c' i', VC mo c i → VM c' i' → la c i ≠ la c' i') ∧ xOps N Sim
/-- the heap of the loop -/
def lawHp (D : va_G) (la : Nat → Nat → Nat) (cyI cyF cyM cyJ : ClassId) (ao mo : Nat) (sC sM : xSt) (H : Heap) : Prop := HW D (VC mo) la (ECf cyI cyF cyM mo la) sC H ∧ HW D VM la (EMf cyI la) sM H ∧ ∃ x, oAt cyJ ao x H
abbrev lawW (p : Program) (l : Launch) (e : Env) (s : State) (m : MethodId) (below : List Frame) (meth : Method) (c : Code) (b : Nat) (H : Heap) (locs : List Loc) (k n : Nat) (g : JFrame) : Prop := W p l e room_1 s m #[Value.ref b] below meth c H locs k n (lw_Z below #[Value.ref b] s) g
def lawBack (p : Program) (l : Launch) (e : Env) (s : State) (m : MethodId) (below : List Frame) (meth : Method) (c : Code) (D : va_G) (la : Nat → Nat → Nat) (cyI cyF cyM cyJ : ClassId) (ao mo b t : Nat) (x4 : Int32) (Sim : Nat → Nat → xSt → xSt → Prop) : Prop :=
  ∀ (sC sM : xSt) (H : Heap) (locs : List Loc) (ls : Array Slot), Sim mo (t + 1) sC sM → lawHp D la cyI cyF cyM cyJ ao mo sC sM H → va_S (fun q => s.heap.size ≤ q) s.heap H locs → lv_has ls 7 [(0, .ref b), (1, .ref (la 8 0)), (2, .ref (la 9 0)), (3, .ref ao), (4, .int x4)] → lawW p l e s m below meth c b H locs (102 + (t + 1)) (17282 + 6 * (t + 1)) (F0 m 696 ls [])
theorem lw_lcmp (x : Int64) : lg_cmp x x = 0 := by
  unfold lg_cmp
  simp
theorem lw_sum {i k L : Nat} (hL : L ≤ 2561) (h : i + 5 ≤ L) (hk : k < 5) : vp_in (nI i + nI k) L := by rw [nI_add]; exact vp_in_nI (by omega) (by omega)
set_option maxHeartbeats 4000000 in
set_option maxRecDepth 100000 in
theorem lw_case_poke {p : Program} {l : Launch} {e : Env} {s : State} {m : MethodId} {below : List Frame} {meth : Method} {c : Code} {D : va_G} {la : Nat → Nat → Nat} {cyI cyF cyM cyJ : ClassId} {t0 sa sb ao mo N b L : Nat} {xs : Nat → Int32} {Sim : Nat → Nat → xSt → xSt → Prop} (hF : lawFix p l s m meth c D la cyI cyF cyM cyJ t0 sa sb ao mo N b L xs Sim) {t : Nat} {x4 : Int32} (ht : t < 512) (hi : 1 + 5 * t + 5 ≤ L) (ex4 : x4 = nI (1 + 5 * t)) {sC sM : xSt} (hSim : Sim mo t sC sM) {H : Heap} {locs : List Loc} {ls : Array Slot} (hH : lawHp D la cyI cyF cyM cyJ ao mo sC sM H) (hS : va_S (fun q => s.heap.size ≤ q) s.heap H locs) (hl : lv_has ls 7 [(0, .ref b), (1, .ref (la 8 0)), (2, .ref (la 9 0)), (3, .ref ao), (4, .int x4)]) (back : lawBack p l e s m below meth c D la cyI cyF cyM cyJ ao mo b t x4 Sim) :
    lawW p l e s m below meth c b H locs (102 + t) (17282 + 6 * t) (F0 m 124 ls []) := by
  obtain ⟨S, hr, hlk, hlt, hX, hbl, hL, hmo, hxC, hxM, hTS, hJ, hVC, hVM, haC, haM, hao0, hdis, hOps⟩ := hF
  have hx := S.1
  have hb := S.2.1
  have hbA : ¬ (fun q => s.heap.size ≤ q) b := Nat.not_le.mpr hbl
  have hO := hOps mo t sC sM hmo ht hSim
  have v1 : vp_in (x4 + 1) L := by rw [ex4]; exact lw_sum hL hi (k := 1) (by decide)
  have v2 : vp_in (x4 + 2) L := by rw [ex4]; exact lw_sum hL hi (k := 2) (by decide)
  have v3 : vp_in (x4 + 3) L := by rw [ex4]; exact lw_sum hL hi (k := 3) (by decide)
  have v4 : vp_in (x4 + 4) L := by rw [ex4]; exact lw_sum hL hi (k := 4) (by decide)
  obtain ⟨hPC, hPM, x0, ho⟩ := hH
  have cM : ∀ H1 : Heap, (∀ q : Nat, q < H.size → ¬ xA (VC mo) la q → H1[q]? = H[q]?) → HW D VM la (EMf cyI la) sM H1 := fun H1 hk => hPM.kept (fun c i hV => hk _ (hPM c i hV).lt (fun z => by obtain ⟨c', i', h1, h2⟩ := z; exact hdis c' i' c i h1 hV h2))
  obtain ⟨v, sM', hfM, hok, hno⟩ := hO.1 (xs (x4 + 1).toNatClampNeg) (xs (x4 + 2).toNatClampNeg)
  refine lv_aload_n hx hb dL_law_124 rfl (lv_at hl 1 rfl) ?_
  refine lv_aload_n hx hb dL_law_125 rfl (lv_at hl 0 rfl) ?_
  refine lv_iload hx hb dL_law_126 (lv_at hl 4 rfl) ?_
  refine lv_iconst (v := 1) hx hb dL_law_128 (by decide) ?_
  refine lv_iadd hx hb dL_law_129 ?_
  refine va_sld hx hb hX hbl hbA hS v1 dL_law_130 ?_
  refine lv_aload_n hx hb dL_law_131 rfl (lv_at hl 0 rfl) ?_
  refine lv_iload hx hb dL_law_132 (lv_at hl 4 rfl) ?_
  refine lv_iconst (v := 2) hx hb dL_law_134 (by decide) ?_
  refine lv_iadd hx hb dL_law_135 ?_
  refine va_sld hx hb hX hbl hbA hS v2 dL_law_136 ?_
  refine lv_aload_n hx hb dL_law_137 rfl (lv_at hl 3 rfl) ?_
  obtain ⟨sD, dr, hfD⟩ : ∃ (sD : xSt) (dr : Int32), okB (xs (x4 + 1).toNatClampNeg) → fX3_change N mo (xs (x4 + 1).toNatClampNeg) (xs (x4 + 2).toNatClampNeg) sC = some (dr, sD) ∧ Sim mo (t + 1) sD sM' := by
    by_cases hk : okB (xs (x4 + 1).toNatClampNeg)
    · obtain ⟨-, -, dr, sD, h1, h2⟩ := hok hk
      exact ⟨sD, dr, fun _ => ⟨h1, h2⟩⟩
    · exact ⟨sC, 0, fun z => absurd z hk⟩
  refine L_H (n := 4) S hxC hTS hJ hVC haC hao0 ho (TL_poke l hlt (N := N) (fun z => (hfD z).1)) hPC hS rfl cw_poke ss_L_poke in_L (by decide +kernel) ml_L_34 ⟨rfl, rfl⟩ ⟨by decide, by decide⟩ rfl hl.1 (Nat.le_of_ble_eq_true rfl) ⟨by show 102 + t + 1 ≤ 603072; omega, by show 17282 + 6 * t + 6 ≤ 7218911; omega⟩ dL_law_138 (fun H1 locs1 hk0 hPC ho hS hk => ?_) (fun H1 locs1 x1 hk0 hPC ho hS hk => ?_)
  · have hPM := hPM.kept (fun c i hV => hk _ (hPM c i hV).lt (fun z => z.elim (fun z => by obtain ⟨c', i', h1, h2⟩ := z; exact hdis c' i' c i h1 hV h2) (fun z => haM (by rw [← z]; exact xA_of hV))))
    refine lv_istore (lv' := [(5, .int 0), (0, .ref b), (1, .ref (la 8 0)), (2, .ref (la 9 0)), (3, .ref ao), (4, .int x4)]) hx hb dL_law_141 hl (by decide) rfl (fun ls hl => ?_)
    refine lv_aload_n hx hb dL_law_143 rfl (lv_at hl 3 rfl) ?_
    refine lv_aload_n hx hb dL_law_144 rfl (lv_at hl 1 rfl) ?_
    refine lv_iload hx hb dL_law_145 (lv_at hl 5 rfl) ?_
    refine lv_iconst (v := 1) hx hb dL_law_147 (by decide) ?_
    refine lv_iadd hx hb dL_law_148 ?_
    refine va_sld hx hb hX hbl hbA hS v1 dL_law_149 ?_
    refine lv_aload_n hx hb dL_law_150 rfl (lv_at hl 1 rfl) ?_
    refine lv_iload hx hb dL_law_151 (lv_at hl 5 rfl) ?_
    refine lv_iconst (v := 2) hx hb dL_law_153 (by decide) ?_
    refine lv_iadd hx hb dL_law_154 ?_
    refine va_sld hx hb hX hbl hbA hS v2 dL_law_155 ?_
    refine L_V S hxM hVM (TX9_poke l hfM) hPM hS rfl KX9_poke ml_L_37 ⟨rfl, rfl⟩ ⟨by decide, by decide⟩ (x_recv (E := fun c i => (EMf cyI la) (sM.1 c i) sM.2 c i) (c0 := 9) (i0 := 0) hxM.2.1 hPM rfl (ci := 9) rfl rfl) rfl hl.1 (Nat.le_of_ble_eq_true rfl) ⟨by show 102 + t + 1 + 0 ≤ 603072; omega, by show 17282 + 6 * t + 6 + 0 ≤ 7218911; omega⟩ dL_law_156 (fun H2 locs2 hPM hS hk => ?_)
    have hPC := hPC.kept (fun c i hV => hk _ (hPC c i hV).lt (fun z => by obtain ⟨c', i', h1, h2⟩ := z; exact hdis c i c' i' hV h1 h2.symm))
    have ho : oAt cyJ ao (sC.1 20 3 (xs (x4 + 1).toNatClampNeg).toNatClampNeg).toInt64 H2 := by
      show H2[ao]? = _
      rw [hk ao (Array.getElem?_eq_some_iff.mp ho).1 haM]
      exact ho
    refine lv_istore (lv' := [(6, .int v), (5, .int 0), (0, .ref b), (1, .ref (la 8 0)), (2, .ref (la 9 0)), (3, .ref ao), (4, .int x4)]) hx hb dL_law_159 hl (by decide) rfl (fun ls hl => ?_)
    refine lv_aload_n hx hb dL_law_161 rfl (lv_at hl 4 rfl) ?_
    refine L_V S hxM hVM (TX9_thrown l (N := N) (show fX9_thrown N sM' = some (sM'.1 9 0 0, sM') from rfl)) hPM hS rfl KX9_thrown ml_L_38 ⟨rfl, rfl⟩ ⟨by decide, by decide⟩ (x_recv (E := fun c i => (EMf cyI la) (sM'.1 c i) sM'.2 c i) (c0 := 9) (i0 := 0) hxM.2.1 hPM rfl (ci := 9) rfl rfl) rfl hl.1 (Nat.le_of_ble_eq_true rfl) ⟨by show 102 + t + 1 + 0 ≤ 603072; omega, by show 17282 + 6 * t + 6 + 0 ≤ 7218911; omega⟩ dL_law_162 (fun H3 locs3 hPM hS hk => ?_)
    have hPC := hPC.kept (fun c i hV => hk _ (hPC c i hV).lt (fun z => by obtain ⟨c', i', h1, h2⟩ := z; exact hdis c i c' i' hV h1 h2.symm))
    have ho : oAt cyJ ao (sC.1 20 3 (xs (x4 + 1).toNatClampNeg).toNatClampNeg).toInt64 H3 := by
      show H3[ao]? = _
      rw [hk ao (Array.getElem?_eq_some_iff.mp ho).1 haM]
      exact ho
    refine lv_iload hx hb dL_law_165 (lv_at hl 1 rfl) ?_
    refine lv_icmp_eq (tgt := 172) hx hb dL_law_167 (by decide) (fun c1 => ?_) (fun c1 => absurd ((hok hk0).1) c1)
    refine lv_iload hx hb dL_law_172 (lv_at hl 1 rfl) ?_
    refine lv_if_ne (tgt := 189) hx hb dL_law_174 (by decide) (fun c2 => absurd rfl c2) (fun c2 => ?_)
    refine lv_aload_n hx hb dL_law_177 rfl (lv_at hl 5 rfl) ?_
    refine lv_iconst (v := 0) hx hb dL_law_178 (by decide) ?_
    refine L_lald S hJ ho dL_law_179 ?_
    refine lv_iload hx hb dL_law_180 (lv_at hl 0 rfl) ?_
    refine lv_i2l hx hb dL_law_182 rfl ?_
    refine W.lcmp hx hb dL_law_183 ?_
    refine lv_if_eq (tgt := 189) hx hb dL_law_184 (by decide) (fun c3 => ?_) (fun c3 => absurd (by rw [(hok hk0).2.1]; exact lw_lcmp _) c3)
    refine lv_goto (tgt := 696) hx hb dL_law_189 (by decide) ?_
    refine W.widen (k := 102 + (t + 1)) (n := 17282 + 6 * (t + 1)) (by omega) (by omega) ?_
    exact back _ _ _ _ _ (hfD hk0).2 ⟨hPC, hPM, _, ho⟩ hS (lv_sub hl [2, 3, 4, 5, 6] rfl)
  · have hPM := hPM.kept (fun c i hV => hk _ (hPM c i hV).lt (fun z => z.elim (fun z => by obtain ⟨c', i', h1, h2⟩ := z; exact hdis c' i' c i h1 hV h2) (fun z => haM (by rw [← z]; exact xA_of hV))))
    refine lv_istore (lv' := [(5, .int 1), (0, .ref b), (1, .ref (la 8 0)), (2, .ref (la 9 0)), (3, .ref ao), (4, .int x4)]) hx hb dL_law_141 hl (by decide) rfl (fun ls hl => ?_)
    refine lv_aload_n hx hb dL_law_143 rfl (lv_at hl 3 rfl) ?_
    refine lv_aload_n hx hb dL_law_144 rfl (lv_at hl 1 rfl) ?_
    refine lv_iload hx hb dL_law_145 (lv_at hl 5 rfl) ?_
    refine lv_iconst (v := 1) hx hb dL_law_147 (by decide) ?_
    refine lv_iadd hx hb dL_law_148 ?_
    refine va_sld hx hb hX hbl hbA hS v1 dL_law_149 ?_
    refine lv_aload_n hx hb dL_law_150 rfl (lv_at hl 1 rfl) ?_
    refine lv_iload hx hb dL_law_151 (lv_at hl 5 rfl) ?_
    refine lv_iconst (v := 2) hx hb dL_law_153 (by decide) ?_
    refine lv_iadd hx hb dL_law_154 ?_
    refine va_sld hx hb hX hbl hbA hS v2 dL_law_155 ?_
    refine L_V S hxM hVM (TX9_poke l hfM) hPM hS rfl KX9_poke ml_L_37 ⟨rfl, rfl⟩ ⟨by decide, by decide⟩ (x_recv (E := fun c i => (EMf cyI la) (sM.1 c i) sM.2 c i) (c0 := 9) (i0 := 0) hxM.2.1 hPM rfl (ci := 9) rfl rfl) rfl hl.1 (Nat.le_of_ble_eq_true rfl) ⟨by show 102 + t + 1 + 0 ≤ 603072; omega, by show 17282 + 6 * t + 6 + 0 ≤ 7218911; omega⟩ dL_law_156 (fun H2 locs2 hPM hS hk => ?_)
    have hPC := hPC.kept (fun c i hV => hk _ (hPC c i hV).lt (fun z => by obtain ⟨c', i', h1, h2⟩ := z; exact hdis c i c' i' hV h1 h2.symm))
    have ho : oAt cyJ ao x1 H2 := by
      show H2[ao]? = _
      rw [hk ao (Array.getElem?_eq_some_iff.mp ho).1 haM]
      exact ho
    refine lv_istore (lv' := [(6, .int v), (5, .int 1), (0, .ref b), (1, .ref (la 8 0)), (2, .ref (la 9 0)), (3, .ref ao), (4, .int x4)]) hx hb dL_law_159 hl (by decide) rfl (fun ls hl => ?_)
    refine lv_aload_n hx hb dL_law_161 rfl (lv_at hl 4 rfl) ?_
    refine L_V S hxM hVM (TX9_thrown l (N := N) (show fX9_thrown N sM' = some (sM'.1 9 0 0, sM') from rfl)) hPM hS rfl KX9_thrown ml_L_38 ⟨rfl, rfl⟩ ⟨by decide, by decide⟩ (x_recv (E := fun c i => (EMf cyI la) (sM'.1 c i) sM'.2 c i) (c0 := 9) (i0 := 0) hxM.2.1 hPM rfl (ci := 9) rfl rfl) rfl hl.1 (Nat.le_of_ble_eq_true rfl) ⟨by show 102 + t + 1 + 0 ≤ 603072; omega, by show 17282 + 6 * t + 6 + 0 ≤ 7218911; omega⟩ dL_law_162 (fun H3 locs3 hPM hS hk => ?_)
    have hPC := hPC.kept (fun c i hV => hk _ (hPC c i hV).lt (fun z => by obtain ⟨c', i', h1, h2⟩ := z; exact hdis c i c' i' hV h1 h2.symm))
    have ho : oAt cyJ ao x1 H3 := by
      show H3[ao]? = _
      rw [hk ao (Array.getElem?_eq_some_iff.mp ho).1 haM]
      exact ho
    refine lv_iload hx hb dL_law_165 (lv_at hl 1 rfl) ?_
    refine lv_icmp_eq (tgt := 172) hx hb dL_law_167 (by decide) (fun c1 => ?_) (fun c1 => absurd ((hno hk0).1) c1)
    refine lv_iload hx hb dL_law_172 (lv_at hl 1 rfl) ?_
    refine lv_if_ne (tgt := 189) hx hb dL_law_174 (by decide) (fun c2 => ?_) (fun c2 => absurd c2 (by decide))
    refine lv_goto (tgt := 696) hx hb dL_law_189 (by decide) ?_
    refine W.widen (k := 102 + (t + 1)) (n := 17282 + 6 * (t + 1)) (by omega) (by omega) ?_
    exact back _ _ _ _ _ (hno hk0).2 ⟨hPC, hPM, _, ho⟩ hS (lv_sub hl [2, 3, 4, 5, 6] rfl)
set_option maxHeartbeats 4000000 in
set_option maxRecDepth 100000 in
theorem lw_case_feed {p : Program} {l : Launch} {e : Env} {s : State} {m : MethodId} {below : List Frame} {meth : Method} {c : Code} {D : va_G} {la : Nat → Nat → Nat} {cyI cyF cyM cyJ : ClassId} {t0 sa sb ao mo N b L : Nat} {xs : Nat → Int32} {Sim : Nat → Nat → xSt → xSt → Prop} (hF : lawFix p l s m meth c D la cyI cyF cyM cyJ t0 sa sb ao mo N b L xs Sim) {t : Nat} {x4 : Int32} (ht : t < 512) (hi : 1 + 5 * t + 5 ≤ L) (ex4 : x4 = nI (1 + 5 * t)) {sC sM : xSt} (hSim : Sim mo t sC sM) {H : Heap} {locs : List Loc} {ls : Array Slot} (hH : lawHp D la cyI cyF cyM cyJ ao mo sC sM H) (hS : va_S (fun q => s.heap.size ≤ q) s.heap H locs) (hl : lv_has ls 7 [(0, .ref b), (1, .ref (la 8 0)), (2, .ref (la 9 0)), (3, .ref ao), (4, .int x4)]) (back : lawBack p l e s m below meth c D la cyI cyF cyM cyJ ao mo b t x4 Sim) :
    lawW p l e s m below meth c b H locs (102 + t) (17282 + 6 * t) (F0 m 192 ls []) := by
  obtain ⟨S, hr, hlk, hlt, hX, hbl, hL, hmo, hxC, hxM, hTS, hJ, hVC, hVM, haC, haM, hao0, hdis, hOps⟩ := hF
  have hx := S.1
  have hb := S.2.1
  have hbA : ¬ (fun q => s.heap.size ≤ q) b := Nat.not_le.mpr hbl
  have hO := hOps mo t sC sM hmo ht hSim
  have v1 : vp_in (x4 + 1) L := by rw [ex4]; exact lw_sum hL hi (k := 1) (by decide)
  have v2 : vp_in (x4 + 2) L := by rw [ex4]; exact lw_sum hL hi (k := 2) (by decide)
  have v3 : vp_in (x4 + 3) L := by rw [ex4]; exact lw_sum hL hi (k := 3) (by decide)
  have v4 : vp_in (x4 + 4) L := by rw [ex4]; exact lw_sum hL hi (k := 4) (by decide)
  obtain ⟨hPC, hPM, x0, ho⟩ := hH
  have cM : ∀ H1 : Heap, (∀ q : Nat, q < H.size → ¬ xA (VC mo) la q → H1[q]? = H[q]?) → HW D VM la (EMf cyI la) sM H1 := fun H1 hk => hPM.kept (fun c i hV => hk _ (hPM c i hV).lt (fun z => by obtain ⟨c', i', h1, h2⟩ := z; exact hdis c' i' c i h1 hV h2))
  obtain ⟨r, sC', sM', hfC, hfM, hSim'⟩ := hO.2.2.2.1 (xs (x4 + 1).toNatClampNeg) (xs (x4 + 2).toNatClampNeg) ((((xs (x4 + 3).toNatClampNeg)).toInt64 <<< ((32 : Int32).toInt64 &&& 63)) ||| (((xs (x4 + 4).toNatClampNeg)).toInt64 &&& 4294967295))
  refine lv_aload_n hx hb dL_law_192 rfl (lv_at hl 1 rfl) ?_
  refine lv_aload_n hx hb dL_law_193 rfl (lv_at hl 0 rfl) ?_
  refine lv_iload hx hb dL_law_194 (lv_at hl 4 rfl) ?_
  refine lv_iconst (v := 1) hx hb dL_law_196 (by decide) ?_
  refine lv_iadd hx hb dL_law_197 ?_
  refine va_sld hx hb hX hbl hbA hS v1 dL_law_198 ?_
  refine lv_aload_n hx hb dL_law_199 rfl (lv_at hl 0 rfl) ?_
  refine lv_iload hx hb dL_law_200 (lv_at hl 4 rfl) ?_
  refine lv_iconst (v := 2) hx hb dL_law_202 (by decide) ?_
  refine lv_iadd hx hb dL_law_203 ?_
  refine va_sld hx hb hX hbl hbA hS v2 dL_law_204 ?_
  refine lv_aload_n hx hb dL_law_205 rfl (lv_at hl 0 rfl) ?_
  refine lv_iload hx hb dL_law_206 (lv_at hl 4 rfl) ?_
  refine lv_iconst (v := 3) hx hb dL_law_208 (by decide) ?_
  refine lv_iadd hx hb dL_law_209 ?_
  refine va_sld hx hb hX hbl hbA hS v3 dL_law_210 ?_
  refine lv_i2l hx hb dL_law_211 rfl ?_
  refine lv_bipush (v := 32) hx hb dL_law_212 (by decide) ?_
  refine lv_lshl hx hb dL_law_214 rfl ?_
  refine lv_aload_n hx hb dL_law_215 rfl (lv_at hl 0 rfl) ?_
  refine lv_iload hx hb dL_law_216 (lv_at hl 4 rfl) ?_
  refine lv_iconst (v := 4) hx hb dL_law_218 (by decide) ?_
  refine lv_iadd hx hb dL_law_219 ?_
  refine va_sld hx hb hX hbl hbA hS v4 dL_law_220 ?_
  refine lv_i2l hx hb dL_law_221 rfl ?_
  refine lv_ldc2 (v := 4294967295) hx hb S.2.2.2.1 (S.2.2.2.2 _ kl_L_42) dL_law_222 ?_
  refine lv_land hx hb dL_law_225 ?_
  refine lv_lor hx hb dL_law_226 ?_
  refine L_V S hxC hVC (TX8_feed l hfC) hPC hS rfl KX8_feed ml_L_44 ⟨rfl, rfl⟩ ⟨by decide, by decide⟩ (x_recv (E := fun c i => (ECf cyI cyF cyM mo la) (sC.1 c i) sC.2 c i) (c0 := 8) (i0 := 0) hxC.2.1 hPC rfl (ci := 8) rfl rfl) rfl hl.1 (Nat.le_of_ble_eq_true rfl) ⟨by show 102 + t + 0 ≤ 603072; omega, by show 17282 + 6 * t + 0 ≤ 7218911; omega⟩ dL_law_227 (fun H1 locs1 hPC hS hk => ?_)
  have hPM := cM H1 hk
  have ho : oAt cyJ ao x0 H1 := by
    show H1[ao]? = _
    rw [hk ao (Array.getElem?_eq_some_iff.mp ho).1 haC]
    exact ho
  refine lv_aload_n hx hb dL_law_230 rfl (lv_at hl 2 rfl) ?_
  refine lv_aload_n hx hb dL_law_231 rfl (lv_at hl 0 rfl) ?_
  refine lv_iload hx hb dL_law_232 (lv_at hl 4 rfl) ?_
  refine lv_iconst (v := 1) hx hb dL_law_234 (by decide) ?_
  refine lv_iadd hx hb dL_law_235 ?_
  refine va_sld hx hb hX hbl hbA hS v1 dL_law_236 ?_
  refine lv_aload_n hx hb dL_law_237 rfl (lv_at hl 0 rfl) ?_
  refine lv_iload hx hb dL_law_238 (lv_at hl 4 rfl) ?_
  refine lv_iconst (v := 2) hx hb dL_law_240 (by decide) ?_
  refine lv_iadd hx hb dL_law_241 ?_
  refine va_sld hx hb hX hbl hbA hS v2 dL_law_242 ?_
  refine lv_aload_n hx hb dL_law_243 rfl (lv_at hl 0 rfl) ?_
  refine lv_iload hx hb dL_law_244 (lv_at hl 4 rfl) ?_
  refine lv_iconst (v := 3) hx hb dL_law_246 (by decide) ?_
  refine lv_iadd hx hb dL_law_247 ?_
  refine va_sld hx hb hX hbl hbA hS v3 dL_law_248 ?_
  refine lv_i2l hx hb dL_law_249 rfl ?_
  refine lv_bipush (v := 32) hx hb dL_law_250 (by decide) ?_
  refine lv_lshl hx hb dL_law_252 rfl ?_
  refine lv_aload_n hx hb dL_law_253 rfl (lv_at hl 0 rfl) ?_
  refine lv_iload hx hb dL_law_254 (lv_at hl 4 rfl) ?_
  refine lv_iconst (v := 4) hx hb dL_law_256 (by decide) ?_
  refine lv_iadd hx hb dL_law_257 ?_
  refine va_sld hx hb hX hbl hbA hS v4 dL_law_258 ?_
  refine lv_i2l hx hb dL_law_259 rfl ?_
  refine lv_ldc2 (v := 4294967295) hx hb S.2.2.2.1 (S.2.2.2.2 _ kl_L_42) dL_law_260 ?_
  refine lv_land hx hb dL_law_263 ?_
  refine lv_lor hx hb dL_law_264 ?_
  refine L_V S hxM hVM (TX9_feed l hfM) hPM hS rfl KX9_feed ml_L_48 ⟨rfl, rfl⟩ ⟨by decide, by decide⟩ (x_recv (E := fun c i => (EMf cyI la) (sM.1 c i) sM.2 c i) (c0 := 9) (i0 := 0) hxM.2.1 hPM rfl (ci := 9) rfl rfl) rfl hl.1 (Nat.le_of_ble_eq_true rfl) ⟨by show 102 + t + 0 ≤ 603072; omega, by show 17282 + 6 * t + 0 ≤ 7218911; omega⟩ dL_law_265 (fun H2 locs2 hPM hS hk => ?_)
  have hPC := hPC.kept (fun c i hV => hk _ (hPC c i hV).lt (fun z => by obtain ⟨c', i', h1, h2⟩ := z; exact hdis c i c' i' hV h1 h2.symm))
  have ho : oAt cyJ ao x0 H2 := by
    show H2[ao]? = _
    rw [hk ao (Array.getElem?_eq_some_iff.mp ho).1 haM]
    exact ho
  refine lv_icmp_eq (tgt := 696) hx hb dL_law_268 (by decide) (fun c1 => ?_) (fun c1 => absurd rfl c1)
  refine W.widen (k := 102 + (t + 1)) (n := 17282 + 6 * (t + 1)) (by omega) (by omega) ?_
  exact back _ _ _ _ _ hSim' ⟨hPC, hPM, x0, ho⟩ hS hl
set_option maxHeartbeats 4000000 in
set_option maxRecDepth 100000 in
theorem lw_case_peek {p : Program} {l : Launch} {e : Env} {s : State} {m : MethodId} {below : List Frame} {meth : Method} {c : Code} {D : va_G} {la : Nat → Nat → Nat} {cyI cyF cyM cyJ : ClassId} {t0 sa sb ao mo N b L : Nat} {xs : Nat → Int32} {Sim : Nat → Nat → xSt → xSt → Prop} (hF : lawFix p l s m meth c D la cyI cyF cyM cyJ t0 sa sb ao mo N b L xs Sim) {t : Nat} {x4 : Int32} (ht : t < 512) (hi : 1 + 5 * t + 5 ≤ L) (ex4 : x4 = nI (1 + 5 * t)) {sC sM : xSt} (hSim : Sim mo t sC sM) {H : Heap} {locs : List Loc} {ls : Array Slot} (hH : lawHp D la cyI cyF cyM cyJ ao mo sC sM H) (hS : va_S (fun q => s.heap.size ≤ q) s.heap H locs) (hl : lv_has ls 7 [(0, .ref b), (1, .ref (la 8 0)), (2, .ref (la 9 0)), (3, .ref ao), (4, .int x4)]) (back : lawBack p l e s m below meth c D la cyI cyF cyM cyJ ao mo b t x4 Sim) :
    lawW p l e s m below meth c b H locs (102 + t) (17282 + 6 * t) (F0 m 273 ls []) := by
  obtain ⟨S, hr, hlk, hlt, hX, hbl, hL, hmo, hxC, hxM, hTS, hJ, hVC, hVM, haC, haM, hao0, hdis, hOps⟩ := hF
  have hx := S.1
  have hb := S.2.1
  have hbA : ¬ (fun q => s.heap.size ≤ q) b := Nat.not_le.mpr hbl
  have hO := hOps mo t sC sM hmo ht hSim
  have v1 : vp_in (x4 + 1) L := by rw [ex4]; exact lw_sum hL hi (k := 1) (by decide)
  have v2 : vp_in (x4 + 2) L := by rw [ex4]; exact lw_sum hL hi (k := 2) (by decide)
  have v3 : vp_in (x4 + 3) L := by rw [ex4]; exact lw_sum hL hi (k := 3) (by decide)
  have v4 : vp_in (x4 + 4) L := by rw [ex4]; exact lw_sum hL hi (k := 4) (by decide)
  obtain ⟨hPC, hPM, x0, ho⟩ := hH
  have cM : ∀ H1 : Heap, (∀ q : Nat, q < H.size → ¬ xA (VC mo) la q → H1[q]? = H[q]?) → HW D VM la (EMf cyI la) sM H1 := fun H1 hk => hPM.kept (fun c i hV => hk _ (hPM c i hV).lt (fun z => by obtain ⟨c', i', h1, h2⟩ := z; exact hdis c' i' c i h1 hV h2))
  obtain ⟨v, sM', hfM, hok, hno⟩ := hO.2.1 (xs (x4 + 1).toNatClampNeg)
  refine lv_aload_n hx hb dL_law_273 rfl (lv_at hl 1 rfl) ?_
  refine lv_aload_n hx hb dL_law_274 rfl (lv_at hl 0 rfl) ?_
  refine lv_iload hx hb dL_law_275 (lv_at hl 4 rfl) ?_
  refine lv_iconst (v := 1) hx hb dL_law_277 (by decide) ?_
  refine lv_iadd hx hb dL_law_278 ?_
  refine va_sld hx hb hX hbl hbA hS v1 dL_law_279 ?_
  refine lv_aload_n hx hb dL_law_280 rfl (lv_at hl 3 rfl) ?_
  refine L_H (n := 3) S hxC hTS hJ hVC haC hao0 ho (TL_peek l hlt) hPC hS rfl cw_peek ss_L_peek in_L (by decide +kernel) ml_L_49 ⟨rfl, rfl⟩ ⟨by decide, by decide⟩ rfl hl.1 (Nat.le_of_ble_eq_true rfl) ⟨by show 102 + t + 1 ≤ 603072; omega, by show 17282 + 6 * t + 6 ≤ 7218911; omega⟩ dL_law_281 (fun H1 locs1 hk0 hPC ho hS hk => ?_) (fun H1 locs1 x1 hk0 hPC ho hS hk => ?_)
  · have hPM := hPM.kept (fun c i hV => hk _ (hPM c i hV).lt (fun z => z.elim (fun z => by obtain ⟨c', i', h1, h2⟩ := z; exact hdis c' i' c i h1 hV h2) (fun z => haM (by rw [← z]; exact xA_of hV))))
    refine lv_istore (lv' := [(5, .int 0), (0, .ref b), (1, .ref (la 8 0)), (2, .ref (la 9 0)), (3, .ref ao), (4, .int x4)]) hx hb dL_law_284 hl (by decide) rfl (fun ls hl => ?_)
    refine lv_aload_n hx hb dL_law_286 rfl (lv_at hl 3 rfl) ?_
    refine lv_aload_n hx hb dL_law_287 rfl (lv_at hl 1 rfl) ?_
    refine lv_iload hx hb dL_law_288 (lv_at hl 5 rfl) ?_
    refine lv_iconst (v := 1) hx hb dL_law_290 (by decide) ?_
    refine lv_iadd hx hb dL_law_291 ?_
    refine va_sld hx hb hX hbl hbA hS v1 dL_law_292 ?_
    refine L_V S hxM hVM (TX9_peek l hfM) hPM hS rfl KX9_peek ml_L_52 ⟨rfl, rfl⟩ ⟨by decide, by decide⟩ (x_recv (E := fun c i => (EMf cyI la) (sM.1 c i) sM.2 c i) (c0 := 9) (i0 := 0) hxM.2.1 hPM rfl (ci := 9) rfl rfl) rfl hl.1 (Nat.le_of_ble_eq_true rfl) ⟨by show 102 + t + 1 + 0 ≤ 603072; omega, by show 17282 + 6 * t + 6 + 0 ≤ 7218911; omega⟩ dL_law_293 (fun H2 locs2 hPM hS hk => ?_)
    have hPC := hPC.kept (fun c i hV => hk _ (hPC c i hV).lt (fun z => by obtain ⟨c', i', h1, h2⟩ := z; exact hdis c i c' i' hV h1 h2.symm))
    have ho : oAt cyJ ao (sC.1 20 3 (xs (x4 + 1).toNatClampNeg).toNatClampNeg).toInt64 H2 := by
      show H2[ao]? = _
      rw [hk ao (Array.getElem?_eq_some_iff.mp ho).1 haM]
      exact ho
    refine lv_istore (lv' := [(6, .int v), (5, .int 0), (0, .ref b), (1, .ref (la 8 0)), (2, .ref (la 9 0)), (3, .ref ao), (4, .int x4)]) hx hb dL_law_296 hl (by decide) rfl (fun ls hl => ?_)
    refine lv_aload_n hx hb dL_law_298 rfl (lv_at hl 4 rfl) ?_
    refine L_V S hxM hVM (TX9_thrown l (N := N) (show fX9_thrown N sM' = some (sM'.1 9 0 0, sM') from rfl)) hPM hS rfl KX9_thrown ml_L_38 ⟨rfl, rfl⟩ ⟨by decide, by decide⟩ (x_recv (E := fun c i => (EMf cyI la) (sM'.1 c i) sM'.2 c i) (c0 := 9) (i0 := 0) hxM.2.1 hPM rfl (ci := 9) rfl rfl) rfl hl.1 (Nat.le_of_ble_eq_true rfl) ⟨by show 102 + t + 1 + 0 ≤ 603072; omega, by show 17282 + 6 * t + 6 + 0 ≤ 7218911; omega⟩ dL_law_299 (fun H3 locs3 hPM hS hk => ?_)
    have hPC := hPC.kept (fun c i hV => hk _ (hPC c i hV).lt (fun z => by obtain ⟨c', i', h1, h2⟩ := z; exact hdis c i c' i' hV h1 h2.symm))
    have ho : oAt cyJ ao (sC.1 20 3 (xs (x4 + 1).toNatClampNeg).toNatClampNeg).toInt64 H3 := by
      show H3[ao]? = _
      rw [hk ao (Array.getElem?_eq_some_iff.mp ho).1 haM]
      exact ho
    refine lv_iload hx hb dL_law_302 (lv_at hl 1 rfl) ?_
    refine lv_icmp_eq (tgt := 309) hx hb dL_law_304 (by decide) (fun c1 => ?_) (fun c1 => absurd ((hok hk0).1) c1)
    refine lv_iload hx hb dL_law_309 (lv_at hl 1 rfl) ?_
    refine lv_if_ne (tgt := 326) hx hb dL_law_311 (by decide) (fun c2 => absurd rfl c2) (fun c2 => ?_)
    refine lv_aload_n hx hb dL_law_314 rfl (lv_at hl 5 rfl) ?_
    refine lv_iconst (v := 0) hx hb dL_law_315 (by decide) ?_
    refine L_lald S hJ ho dL_law_316 ?_
    refine lv_iload hx hb dL_law_317 (lv_at hl 0 rfl) ?_
    refine lv_i2l hx hb dL_law_319 rfl ?_
    refine W.lcmp hx hb dL_law_320 ?_
    refine lv_if_eq (tgt := 326) hx hb dL_law_321 (by decide) (fun c3 => ?_) (fun c3 => absurd (by rw [(hok hk0).2.1]; exact lw_lcmp _) c3)
    refine lv_goto (tgt := 696) hx hb dL_law_326 (by decide) ?_
    refine W.widen (k := 102 + (t + 1)) (n := 17282 + 6 * (t + 1)) (by omega) (by omega) ?_
    exact back _ _ _ _ _ (hok hk0).2.2 ⟨hPC, hPM, _, ho⟩ hS (lv_sub hl [2, 3, 4, 5, 6] rfl)
  · have hPM := hPM.kept (fun c i hV => hk _ (hPM c i hV).lt (fun z => z.elim (fun z => by obtain ⟨c', i', h1, h2⟩ := z; exact hdis c' i' c i h1 hV h2) (fun z => haM (by rw [← z]; exact xA_of hV))))
    refine lv_istore (lv' := [(5, .int 1), (0, .ref b), (1, .ref (la 8 0)), (2, .ref (la 9 0)), (3, .ref ao), (4, .int x4)]) hx hb dL_law_284 hl (by decide) rfl (fun ls hl => ?_)
    refine lv_aload_n hx hb dL_law_286 rfl (lv_at hl 3 rfl) ?_
    refine lv_aload_n hx hb dL_law_287 rfl (lv_at hl 1 rfl) ?_
    refine lv_iload hx hb dL_law_288 (lv_at hl 5 rfl) ?_
    refine lv_iconst (v := 1) hx hb dL_law_290 (by decide) ?_
    refine lv_iadd hx hb dL_law_291 ?_
    refine va_sld hx hb hX hbl hbA hS v1 dL_law_292 ?_
    refine L_V S hxM hVM (TX9_peek l hfM) hPM hS rfl KX9_peek ml_L_52 ⟨rfl, rfl⟩ ⟨by decide, by decide⟩ (x_recv (E := fun c i => (EMf cyI la) (sM.1 c i) sM.2 c i) (c0 := 9) (i0 := 0) hxM.2.1 hPM rfl (ci := 9) rfl rfl) rfl hl.1 (Nat.le_of_ble_eq_true rfl) ⟨by show 102 + t + 1 + 0 ≤ 603072; omega, by show 17282 + 6 * t + 6 + 0 ≤ 7218911; omega⟩ dL_law_293 (fun H2 locs2 hPM hS hk => ?_)
    have hPC := hPC.kept (fun c i hV => hk _ (hPC c i hV).lt (fun z => by obtain ⟨c', i', h1, h2⟩ := z; exact hdis c i c' i' hV h1 h2.symm))
    have ho : oAt cyJ ao x1 H2 := by
      show H2[ao]? = _
      rw [hk ao (Array.getElem?_eq_some_iff.mp ho).1 haM]
      exact ho
    refine lv_istore (lv' := [(6, .int v), (5, .int 1), (0, .ref b), (1, .ref (la 8 0)), (2, .ref (la 9 0)), (3, .ref ao), (4, .int x4)]) hx hb dL_law_296 hl (by decide) rfl (fun ls hl => ?_)
    refine lv_aload_n hx hb dL_law_298 rfl (lv_at hl 4 rfl) ?_
    refine L_V S hxM hVM (TX9_thrown l (N := N) (show fX9_thrown N sM' = some (sM'.1 9 0 0, sM') from rfl)) hPM hS rfl KX9_thrown ml_L_38 ⟨rfl, rfl⟩ ⟨by decide, by decide⟩ (x_recv (E := fun c i => (EMf cyI la) (sM'.1 c i) sM'.2 c i) (c0 := 9) (i0 := 0) hxM.2.1 hPM rfl (ci := 9) rfl rfl) rfl hl.1 (Nat.le_of_ble_eq_true rfl) ⟨by show 102 + t + 1 + 0 ≤ 603072; omega, by show 17282 + 6 * t + 6 + 0 ≤ 7218911; omega⟩ dL_law_299 (fun H3 locs3 hPM hS hk => ?_)
    have hPC := hPC.kept (fun c i hV => hk _ (hPC c i hV).lt (fun z => by obtain ⟨c', i', h1, h2⟩ := z; exact hdis c i c' i' hV h1 h2.symm))
    have ho : oAt cyJ ao x1 H3 := by
      show H3[ao]? = _
      rw [hk ao (Array.getElem?_eq_some_iff.mp ho).1 haM]
      exact ho
    refine lv_iload hx hb dL_law_302 (lv_at hl 1 rfl) ?_
    refine lv_icmp_eq (tgt := 309) hx hb dL_law_304 (by decide) (fun c1 => ?_) (fun c1 => absurd ((hno hk0).1) c1)
    refine lv_iload hx hb dL_law_309 (lv_at hl 1 rfl) ?_
    refine lv_if_ne (tgt := 326) hx hb dL_law_311 (by decide) (fun c2 => ?_) (fun c2 => absurd c2 (by decide))
    refine lv_goto (tgt := 696) hx hb dL_law_326 (by decide) ?_
    refine W.widen (k := 102 + (t + 1)) (n := 17282 + 6 * (t + 1)) (by omega) (by omega) ?_
    exact back _ _ _ _ _ (hno hk0).2 ⟨hPC, hPM, _, ho⟩ hS (lv_sub hl [2, 3, 4, 5, 6] rfl)
set_option maxHeartbeats 4000000 in
set_option maxRecDepth 100000 in
theorem lw_case_global {p : Program} {l : Launch} {e : Env} {s : State} {m : MethodId} {below : List Frame} {meth : Method} {c : Code} {D : va_G} {la : Nat → Nat → Nat} {cyI cyF cyM cyJ : ClassId} {t0 sa sb ao mo N b L : Nat} {xs : Nat → Int32} {Sim : Nat → Nat → xSt → xSt → Prop} (hF : lawFix p l s m meth c D la cyI cyF cyM cyJ t0 sa sb ao mo N b L xs Sim) {t : Nat} {x4 : Int32} (ht : t < 512) (hi : 1 + 5 * t + 5 ≤ L) (ex4 : x4 = nI (1 + 5 * t)) {sC sM : xSt} (hSim : Sim mo t sC sM) {H : Heap} {locs : List Loc} {ls : Array Slot} (hH : lawHp D la cyI cyF cyM cyJ ao mo sC sM H) (hS : va_S (fun q => s.heap.size ≤ q) s.heap H locs) (hl : lv_has ls 7 [(0, .ref b), (1, .ref (la 8 0)), (2, .ref (la 9 0)), (3, .ref ao), (4, .int x4)]) (back : lawBack p l e s m below meth c D la cyI cyF cyM cyJ ao mo b t x4 Sim) :
    lawW p l e s m below meth c b H locs (102 + t) (17282 + 6 * t) (F0 m 329 ls []) := by
  obtain ⟨S, hr, hlk, hlt, hX, hbl, hL, hmo, hxC, hxM, hTS, hJ, hVC, hVM, haC, haM, hao0, hdis, hOps⟩ := hF
  have hx := S.1
  have hb := S.2.1
  have hbA : ¬ (fun q => s.heap.size ≤ q) b := Nat.not_le.mpr hbl
  have hO := hOps mo t sC sM hmo ht hSim
  have v1 : vp_in (x4 + 1) L := by rw [ex4]; exact lw_sum hL hi (k := 1) (by decide)
  have v2 : vp_in (x4 + 2) L := by rw [ex4]; exact lw_sum hL hi (k := 2) (by decide)
  have v3 : vp_in (x4 + 3) L := by rw [ex4]; exact lw_sum hL hi (k := 3) (by decide)
  have v4 : vp_in (x4 + 4) L := by rw [ex4]; exact lw_sum hL hi (k := 4) (by decide)
  obtain ⟨hPC, hPM, x0, ho⟩ := hH
  have cM : ∀ H1 : Heap, (∀ q : Nat, q < H.size → ¬ xA (VC mo) la q → H1[q]? = H[q]?) → HW D VM la (EMf cyI la) sM H1 := fun H1 hk => hPM.kept (fun c i hV => hk _ (hPM c i hV).lt (fun z => by obtain ⟨c', i', h1, h2⟩ := z; exact hdis c' i' c i h1 hV h2))
  obtain ⟨v, sM', hfM, hok, hno⟩ := hO.2.2.1 (xs (x4 + 1).toNatClampNeg) (xs (x4 + 2).toNatClampNeg)
  refine lv_aload_n hx hb dL_law_329 rfl (lv_at hl 1 rfl) ?_
  refine lv_aload_n hx hb dL_law_330 rfl (lv_at hl 0 rfl) ?_
  refine lv_iload hx hb dL_law_331 (lv_at hl 4 rfl) ?_
  refine lv_iconst (v := 1) hx hb dL_law_333 (by decide) ?_
  refine lv_iadd hx hb dL_law_334 ?_
  refine va_sld hx hb hX hbl hbA hS v1 dL_law_335 ?_
  refine lv_aload_n hx hb dL_law_336 rfl (lv_at hl 0 rfl) ?_
  refine lv_iload hx hb dL_law_337 (lv_at hl 4 rfl) ?_
  refine lv_iconst (v := 2) hx hb dL_law_339 (by decide) ?_
  refine lv_iadd hx hb dL_law_340 ?_
  refine va_sld hx hb hX hbl hbA hS v2 dL_law_341 ?_
  refine lv_aload_n hx hb dL_law_342 rfl (lv_at hl 3 rfl) ?_
  refine L_H (n := 4) S hxC hTS hJ hVC haC hao0 ho (TL_global l hlt) hPC hS rfl cw_global ss_L_global in_L (by decide +kernel) ml_L_53 ⟨rfl, rfl⟩ ⟨by decide, by decide⟩ rfl hl.1 (Nat.le_of_ble_eq_true rfl) ⟨by show 102 + t + 1 ≤ 603072; omega, by show 17282 + 6 * t + 6 ≤ 7218911; omega⟩ dL_law_343 (fun H1 locs1 hk0 hPC ho hS hk => ?_) (fun H1 locs1 x1 hk0 hPC ho hS hk => ?_)
  · have hPM := hPM.kept (fun c i hV => hk _ (hPM c i hV).lt (fun z => z.elim (fun z => by obtain ⟨c', i', h1, h2⟩ := z; exact hdis c' i' c i h1 hV h2) (fun z => haM (by rw [← z]; exact xA_of hV))))
    refine lv_istore (lv' := [(5, .int 0), (0, .ref b), (1, .ref (la 8 0)), (2, .ref (la 9 0)), (3, .ref ao), (4, .int x4)]) hx hb dL_law_346 hl (by decide) rfl (fun ls hl => ?_)
    refine lv_aload_n hx hb dL_law_348 rfl (lv_at hl 3 rfl) ?_
    refine lv_aload_n hx hb dL_law_349 rfl (lv_at hl 1 rfl) ?_
    refine lv_iload hx hb dL_law_350 (lv_at hl 5 rfl) ?_
    refine lv_iconst (v := 1) hx hb dL_law_352 (by decide) ?_
    refine lv_iadd hx hb dL_law_353 ?_
    refine va_sld hx hb hX hbl hbA hS v1 dL_law_354 ?_
    refine lv_aload_n hx hb dL_law_355 rfl (lv_at hl 1 rfl) ?_
    refine lv_iload hx hb dL_law_356 (lv_at hl 5 rfl) ?_
    refine lv_iconst (v := 2) hx hb dL_law_358 (by decide) ?_
    refine lv_iadd hx hb dL_law_359 ?_
    refine va_sld hx hb hX hbl hbA hS v2 dL_law_360 ?_
    refine L_V S hxM hVM (TX9_global l hfM) hPM hS rfl KX9_global ml_L_55 ⟨rfl, rfl⟩ ⟨by decide, by decide⟩ (x_recv (E := fun c i => (EMf cyI la) (sM.1 c i) sM.2 c i) (c0 := 9) (i0 := 0) hxM.2.1 hPM rfl (ci := 9) rfl rfl) rfl hl.1 (Nat.le_of_ble_eq_true rfl) ⟨by show 102 + t + 1 + 0 ≤ 603072; omega, by show 17282 + 6 * t + 6 + 0 ≤ 7218911; omega⟩ dL_law_361 (fun H2 locs2 hPM hS hk => ?_)
    have hPC := hPC.kept (fun c i hV => hk _ (hPC c i hV).lt (fun z => by obtain ⟨c', i', h1, h2⟩ := z; exact hdis c i c' i' hV h1 h2.symm))
    have ho : oAt cyJ ao (sC.1 20 1 (xs (x4 + 1).toNatClampNeg).toNatClampNeg).toInt64 H2 := by
      show H2[ao]? = _
      rw [hk ao (Array.getElem?_eq_some_iff.mp ho).1 haM]
      exact ho
    refine lv_istore (lv' := [(6, .int v), (5, .int 0), (0, .ref b), (1, .ref (la 8 0)), (2, .ref (la 9 0)), (3, .ref ao), (4, .int x4)]) hx hb dL_law_364 hl (by decide) rfl (fun ls hl => ?_)
    refine lv_aload_n hx hb dL_law_366 rfl (lv_at hl 4 rfl) ?_
    refine L_V S hxM hVM (TX9_thrown l (N := N) (show fX9_thrown N sM' = some (sM'.1 9 0 0, sM') from rfl)) hPM hS rfl KX9_thrown ml_L_38 ⟨rfl, rfl⟩ ⟨by decide, by decide⟩ (x_recv (E := fun c i => (EMf cyI la) (sM'.1 c i) sM'.2 c i) (c0 := 9) (i0 := 0) hxM.2.1 hPM rfl (ci := 9) rfl rfl) rfl hl.1 (Nat.le_of_ble_eq_true rfl) ⟨by show 102 + t + 1 + 0 ≤ 603072; omega, by show 17282 + 6 * t + 6 + 0 ≤ 7218911; omega⟩ dL_law_367 (fun H3 locs3 hPM hS hk => ?_)
    have hPC := hPC.kept (fun c i hV => hk _ (hPC c i hV).lt (fun z => by obtain ⟨c', i', h1, h2⟩ := z; exact hdis c i c' i' hV h1 h2.symm))
    have ho : oAt cyJ ao (sC.1 20 1 (xs (x4 + 1).toNatClampNeg).toNatClampNeg).toInt64 H3 := by
      show H3[ao]? = _
      rw [hk ao (Array.getElem?_eq_some_iff.mp ho).1 haM]
      exact ho
    refine lv_iload hx hb dL_law_370 (lv_at hl 1 rfl) ?_
    refine lv_icmp_eq (tgt := 377) hx hb dL_law_372 (by decide) (fun c1 => ?_) (fun c1 => absurd ((hok hk0).1) c1)
    refine lv_iload hx hb dL_law_377 (lv_at hl 1 rfl) ?_
    refine lv_if_ne (tgt := 394) hx hb dL_law_379 (by decide) (fun c2 => absurd rfl c2) (fun c2 => ?_)
    refine lv_aload_n hx hb dL_law_382 rfl (lv_at hl 5 rfl) ?_
    refine lv_iconst (v := 0) hx hb dL_law_383 (by decide) ?_
    refine L_lald S hJ ho dL_law_384 ?_
    refine lv_iload hx hb dL_law_385 (lv_at hl 0 rfl) ?_
    refine lv_i2l hx hb dL_law_387 rfl ?_
    refine W.lcmp hx hb dL_law_388 ?_
    refine lv_if_eq (tgt := 394) hx hb dL_law_389 (by decide) (fun c3 => ?_) (fun c3 => absurd (by rw [(hok hk0).2.1]; exact lw_lcmp _) c3)
    refine lv_goto (tgt := 696) hx hb dL_law_394 (by decide) ?_
    refine W.widen (k := 102 + (t + 1)) (n := 17282 + 6 * (t + 1)) (by omega) (by omega) ?_
    exact back _ _ _ _ _ (hok hk0).2.2 ⟨hPC, hPM, _, ho⟩ hS (lv_sub hl [2, 3, 4, 5, 6] rfl)
  · have hPM := hPM.kept (fun c i hV => hk _ (hPM c i hV).lt (fun z => z.elim (fun z => by obtain ⟨c', i', h1, h2⟩ := z; exact hdis c' i' c i h1 hV h2) (fun z => haM (by rw [← z]; exact xA_of hV))))
    refine lv_istore (lv' := [(5, .int 1), (0, .ref b), (1, .ref (la 8 0)), (2, .ref (la 9 0)), (3, .ref ao), (4, .int x4)]) hx hb dL_law_346 hl (by decide) rfl (fun ls hl => ?_)
    refine lv_aload_n hx hb dL_law_348 rfl (lv_at hl 3 rfl) ?_
    refine lv_aload_n hx hb dL_law_349 rfl (lv_at hl 1 rfl) ?_
    refine lv_iload hx hb dL_law_350 (lv_at hl 5 rfl) ?_
    refine lv_iconst (v := 1) hx hb dL_law_352 (by decide) ?_
    refine lv_iadd hx hb dL_law_353 ?_
    refine va_sld hx hb hX hbl hbA hS v1 dL_law_354 ?_
    refine lv_aload_n hx hb dL_law_355 rfl (lv_at hl 1 rfl) ?_
    refine lv_iload hx hb dL_law_356 (lv_at hl 5 rfl) ?_
    refine lv_iconst (v := 2) hx hb dL_law_358 (by decide) ?_
    refine lv_iadd hx hb dL_law_359 ?_
    refine va_sld hx hb hX hbl hbA hS v2 dL_law_360 ?_
    refine L_V S hxM hVM (TX9_global l hfM) hPM hS rfl KX9_global ml_L_55 ⟨rfl, rfl⟩ ⟨by decide, by decide⟩ (x_recv (E := fun c i => (EMf cyI la) (sM.1 c i) sM.2 c i) (c0 := 9) (i0 := 0) hxM.2.1 hPM rfl (ci := 9) rfl rfl) rfl hl.1 (Nat.le_of_ble_eq_true rfl) ⟨by show 102 + t + 1 + 0 ≤ 603072; omega, by show 17282 + 6 * t + 6 + 0 ≤ 7218911; omega⟩ dL_law_361 (fun H2 locs2 hPM hS hk => ?_)
    have hPC := hPC.kept (fun c i hV => hk _ (hPC c i hV).lt (fun z => by obtain ⟨c', i', h1, h2⟩ := z; exact hdis c i c' i' hV h1 h2.symm))
    have ho : oAt cyJ ao x1 H2 := by
      show H2[ao]? = _
      rw [hk ao (Array.getElem?_eq_some_iff.mp ho).1 haM]
      exact ho
    refine lv_istore (lv' := [(6, .int v), (5, .int 1), (0, .ref b), (1, .ref (la 8 0)), (2, .ref (la 9 0)), (3, .ref ao), (4, .int x4)]) hx hb dL_law_364 hl (by decide) rfl (fun ls hl => ?_)
    refine lv_aload_n hx hb dL_law_366 rfl (lv_at hl 4 rfl) ?_
    refine L_V S hxM hVM (TX9_thrown l (N := N) (show fX9_thrown N sM' = some (sM'.1 9 0 0, sM') from rfl)) hPM hS rfl KX9_thrown ml_L_38 ⟨rfl, rfl⟩ ⟨by decide, by decide⟩ (x_recv (E := fun c i => (EMf cyI la) (sM'.1 c i) sM'.2 c i) (c0 := 9) (i0 := 0) hxM.2.1 hPM rfl (ci := 9) rfl rfl) rfl hl.1 (Nat.le_of_ble_eq_true rfl) ⟨by show 102 + t + 1 + 0 ≤ 603072; omega, by show 17282 + 6 * t + 6 + 0 ≤ 7218911; omega⟩ dL_law_367 (fun H3 locs3 hPM hS hk => ?_)
    have hPC := hPC.kept (fun c i hV => hk _ (hPC c i hV).lt (fun z => by obtain ⟨c', i', h1, h2⟩ := z; exact hdis c i c' i' hV h1 h2.symm))
    have ho : oAt cyJ ao x1 H3 := by
      show H3[ao]? = _
      rw [hk ao (Array.getElem?_eq_some_iff.mp ho).1 haM]
      exact ho
    refine lv_iload hx hb dL_law_370 (lv_at hl 1 rfl) ?_
    refine lv_icmp_eq (tgt := 377) hx hb dL_law_372 (by decide) (fun c1 => ?_) (fun c1 => absurd ((hno hk0).1) c1)
    refine lv_iload hx hb dL_law_377 (lv_at hl 1 rfl) ?_
    refine lv_if_ne (tgt := 394) hx hb dL_law_379 (by decide) (fun c2 => ?_) (fun c2 => absurd c2 (by decide))
    refine lv_goto (tgt := 696) hx hb dL_law_394 (by decide) ?_
    refine W.widen (k := 102 + (t + 1)) (n := 17282 + 6 * (t + 1)) (by omega) (by omega) ?_
    exact back _ _ _ _ _ (hno hk0).2 ⟨hPC, hPM, _, ho⟩ hS (lv_sub hl [2, 3, 4, 5, 6] rfl)
set_option maxHeartbeats 4000000 in
set_option maxRecDepth 100000 in
theorem lw_case_make {p : Program} {l : Launch} {e : Env} {s : State} {m : MethodId} {below : List Frame} {meth : Method} {c : Code} {D : va_G} {la : Nat → Nat → Nat} {cyI cyF cyM cyJ : ClassId} {t0 sa sb ao mo N b L : Nat} {xs : Nat → Int32} {Sim : Nat → Nat → xSt → xSt → Prop} (hF : lawFix p l s m meth c D la cyI cyF cyM cyJ t0 sa sb ao mo N b L xs Sim) {t : Nat} {x4 : Int32} (ht : t < 512) (hi : 1 + 5 * t + 5 ≤ L) (ex4 : x4 = nI (1 + 5 * t)) {sC sM : xSt} (hSim : Sim mo t sC sM) {H : Heap} {locs : List Loc} {ls : Array Slot} (hH : lawHp D la cyI cyF cyM cyJ ao mo sC sM H) (hS : va_S (fun q => s.heap.size ≤ q) s.heap H locs) (hl : lv_has ls 7 [(0, .ref b), (1, .ref (la 8 0)), (2, .ref (la 9 0)), (3, .ref ao), (4, .int x4)]) (back : lawBack p l e s m below meth c D la cyI cyF cyM cyJ ao mo b t x4 Sim) :
    lawW p l e s m below meth c b H locs (102 + t) (17282 + 6 * t) (F0 m 397 ls []) := by
  obtain ⟨S, hr, hlk, hlt, hX, hbl, hL, hmo, hxC, hxM, hTS, hJ, hVC, hVM, haC, haM, hao0, hdis, hOps⟩ := hF
  have hx := S.1
  have hb := S.2.1
  have hbA : ¬ (fun q => s.heap.size ≤ q) b := Nat.not_le.mpr hbl
  have hO := hOps mo t sC sM hmo ht hSim
  have v1 : vp_in (x4 + 1) L := by rw [ex4]; exact lw_sum hL hi (k := 1) (by decide)
  have v2 : vp_in (x4 + 2) L := by rw [ex4]; exact lw_sum hL hi (k := 2) (by decide)
  have v3 : vp_in (x4 + 3) L := by rw [ex4]; exact lw_sum hL hi (k := 3) (by decide)
  have v4 : vp_in (x4 + 4) L := by rw [ex4]; exact lw_sum hL hi (k := 4) (by decide)
  obtain ⟨hPC, hPM, x0, ho⟩ := hH
  have cM : ∀ H1 : Heap, (∀ q : Nat, q < H.size → ¬ xA (VC mo) la q → H1[q]? = H[q]?) → HW D VM la (EMf cyI la) sM H1 := fun H1 hk => hPM.kept (fun c i hV => hk _ (hPM c i hV).lt (fun z => by obtain ⟨c', i', h1, h2⟩ := z; exact hdis c' i' c i h1 hV h2))
  obtain ⟨r, sC', sM', hfC, hfM, hSim'⟩ := hO.2.2.2.2.1 (xs (x4 + 1).toNatClampNeg)
  refine lv_aload_n hx hb dL_law_397 rfl (lv_at hl 1 rfl) ?_
  refine lv_aload_n hx hb dL_law_398 rfl (lv_at hl 0 rfl) ?_
  refine lv_iload hx hb dL_law_399 (lv_at hl 4 rfl) ?_
  refine lv_iconst (v := 1) hx hb dL_law_401 (by decide) ?_
  refine lv_iadd hx hb dL_law_402 ?_
  refine va_sld hx hb hX hbl hbA hS v1 dL_law_403 ?_
  refine L_V S hxC hVC (TX8_make l hfC) hPC hS rfl KX8_make ml_L_56 ⟨rfl, rfl⟩ ⟨by decide, by decide⟩ (x_recv (E := fun c i => (ECf cyI cyF cyM mo la) (sC.1 c i) sC.2 c i) (c0 := 8) (i0 := 0) hxC.2.1 hPC rfl (ci := 8) rfl rfl) rfl hl.1 (Nat.le_of_ble_eq_true rfl) ⟨by show 102 + t + 0 ≤ 603072; omega, by show 17282 + 6 * t + 0 ≤ 7218911; omega⟩ dL_law_404 (fun H1 locs1 hPC hS hk => ?_)
  have hPM := cM H1 hk
  have ho : oAt cyJ ao x0 H1 := by
    show H1[ao]? = _
    rw [hk ao (Array.getElem?_eq_some_iff.mp ho).1 haC]
    exact ho
  refine lv_aload_n hx hb dL_law_407 rfl (lv_at hl 2 rfl) ?_
  refine lv_aload_n hx hb dL_law_408 rfl (lv_at hl 0 rfl) ?_
  refine lv_iload hx hb dL_law_409 (lv_at hl 4 rfl) ?_
  refine lv_iconst (v := 1) hx hb dL_law_411 (by decide) ?_
  refine lv_iadd hx hb dL_law_412 ?_
  refine va_sld hx hb hX hbl hbA hS v1 dL_law_413 ?_
  refine L_V S hxM hVM (TX9_make l hfM) hPM hS rfl KX9_make ml_L_59 ⟨rfl, rfl⟩ ⟨by decide, by decide⟩ (x_recv (E := fun c i => (EMf cyI la) (sM.1 c i) sM.2 c i) (c0 := 9) (i0 := 0) hxM.2.1 hPM rfl (ci := 9) rfl rfl) rfl hl.1 (Nat.le_of_ble_eq_true rfl) ⟨by show 102 + t + 0 ≤ 603072; omega, by show 17282 + 6 * t + 0 ≤ 7218911; omega⟩ dL_law_414 (fun H2 locs2 hPM hS hk => ?_)
  have hPC := hPC.kept (fun c i hV => hk _ (hPC c i hV).lt (fun z => by obtain ⟨c', i', h1, h2⟩ := z; exact hdis c i c' i' hV h1 h2.symm))
  have ho : oAt cyJ ao x0 H2 := by
    show H2[ao]? = _
    rw [hk ao (Array.getElem?_eq_some_iff.mp ho).1 haM]
    exact ho
  refine lv_icmp_eq (tgt := 696) hx hb dL_law_417 (by decide) (fun c1 => ?_) (fun c1 => absurd rfl c1)
  refine W.widen (k := 102 + (t + 1)) (n := 17282 + 6 * (t + 1)) (by omega) (by omega) ?_
  exact back _ _ _ _ _ hSim' ⟨hPC, hPM, x0, ho⟩ hS hl
set_option maxHeartbeats 4000000 in
set_option maxRecDepth 100000 in
theorem lw_case_place {p : Program} {l : Launch} {e : Env} {s : State} {m : MethodId} {below : List Frame} {meth : Method} {c : Code} {D : va_G} {la : Nat → Nat → Nat} {cyI cyF cyM cyJ : ClassId} {t0 sa sb ao mo N b L : Nat} {xs : Nat → Int32} {Sim : Nat → Nat → xSt → xSt → Prop} (hF : lawFix p l s m meth c D la cyI cyF cyM cyJ t0 sa sb ao mo N b L xs Sim) {t : Nat} {x4 : Int32} (ht : t < 512) (hi : 1 + 5 * t + 5 ≤ L) (ex4 : x4 = nI (1 + 5 * t)) {sC sM : xSt} (hSim : Sim mo t sC sM) {H : Heap} {locs : List Loc} {ls : Array Slot} (hH : lawHp D la cyI cyF cyM cyJ ao mo sC sM H) (hS : va_S (fun q => s.heap.size ≤ q) s.heap H locs) (hl : lv_has ls 7 [(0, .ref b), (1, .ref (la 8 0)), (2, .ref (la 9 0)), (3, .ref ao), (4, .int x4)]) (back : lawBack p l e s m below meth c D la cyI cyF cyM cyJ ao mo b t x4 Sim) :
    lawW p l e s m below meth c b H locs (102 + t) (17282 + 6 * t) (F0 m 422 ls []) := by
  obtain ⟨S, hr, hlk, hlt, hX, hbl, hL, hmo, hxC, hxM, hTS, hJ, hVC, hVM, haC, haM, hao0, hdis, hOps⟩ := hF
  have hx := S.1
  have hb := S.2.1
  have hbA : ¬ (fun q => s.heap.size ≤ q) b := Nat.not_le.mpr hbl
  have hO := hOps mo t sC sM hmo ht hSim
  have v1 : vp_in (x4 + 1) L := by rw [ex4]; exact lw_sum hL hi (k := 1) (by decide)
  have v2 : vp_in (x4 + 2) L := by rw [ex4]; exact lw_sum hL hi (k := 2) (by decide)
  have v3 : vp_in (x4 + 3) L := by rw [ex4]; exact lw_sum hL hi (k := 3) (by decide)
  have v4 : vp_in (x4 + 4) L := by rw [ex4]; exact lw_sum hL hi (k := 4) (by decide)
  obtain ⟨hPC, hPM, x0, ho⟩ := hH
  have cM : ∀ H1 : Heap, (∀ q : Nat, q < H.size → ¬ xA (VC mo) la q → H1[q]? = H[q]?) → HW D VM la (EMf cyI la) sM H1 := fun H1 hk => hPM.kept (fun c i hV => hk _ (hPM c i hV).lt (fun z => by obtain ⟨c', i', h1, h2⟩ := z; exact hdis c' i' c i h1 hV h2))
  obtain ⟨r, sC', sM', hfC, hfM, hSim'⟩ := hO.2.2.2.2.2.1 
  refine lv_aload_n hx hb dL_law_422 rfl (lv_at hl 1 rfl) ?_
  refine L_V S hxC hVC (TX8_place l hfC) hPC hS rfl KX8_place ml_L_60 ⟨rfl, rfl⟩ ⟨by decide, by decide⟩ (x_recv (E := fun c i => (ECf cyI cyF cyM mo la) (sC.1 c i) sC.2 c i) (c0 := 8) (i0 := 0) hxC.2.1 hPC rfl (ci := 8) rfl rfl) rfl hl.1 (Nat.le_of_ble_eq_true rfl) ⟨by show 102 + t + 0 ≤ 603072; omega, by show 17282 + 6 * t + 0 ≤ 7218911; omega⟩ dL_law_423 (fun H1 locs1 hPC hS hk => ?_)
  have hPM := cM H1 hk
  have ho : oAt cyJ ao x0 H1 := by
    show H1[ao]? = _
    rw [hk ao (Array.getElem?_eq_some_iff.mp ho).1 haC]
    exact ho
  refine lv_aload_n hx hb dL_law_426 rfl (lv_at hl 2 rfl) ?_
  refine L_V S hxM hVM (TX9_place l hfM) hPM hS rfl KX9_place ml_L_63 ⟨rfl, rfl⟩ ⟨by decide, by decide⟩ (x_recv (E := fun c i => (EMf cyI la) (sM.1 c i) sM.2 c i) (c0 := 9) (i0 := 0) hxM.2.1 hPM rfl (ci := 9) rfl rfl) rfl hl.1 (Nat.le_of_ble_eq_true rfl) ⟨by show 102 + t + 0 ≤ 603072; omega, by show 17282 + 6 * t + 0 ≤ 7218911; omega⟩ dL_law_427 (fun H2 locs2 hPM hS hk => ?_)
  have hPC := hPC.kept (fun c i hV => hk _ (hPC c i hV).lt (fun z => by obtain ⟨c', i', h1, h2⟩ := z; exact hdis c i c' i' hV h1 h2.symm))
  have ho : oAt cyJ ao x0 H2 := by
    show H2[ao]? = _
    rw [hk ao (Array.getElem?_eq_some_iff.mp ho).1 haM]
    exact ho
  refine lv_icmp_eq (tgt := 696) hx hb dL_law_430 (by decide) (fun c1 => ?_) (fun c1 => absurd rfl c1)
  refine W.widen (k := 102 + (t + 1)) (n := 17282 + 6 * (t + 1)) (by omega) (by omega) ?_
  exact back _ _ _ _ _ hSim' ⟨hPC, hPM, x0, ho⟩ hS hl
set_option maxHeartbeats 4000000 in
set_option maxRecDepth 100000 in
theorem lw_case_argument {p : Program} {l : Launch} {e : Env} {s : State} {m : MethodId} {below : List Frame} {meth : Method} {c : Code} {D : va_G} {la : Nat → Nat → Nat} {cyI cyF cyM cyJ : ClassId} {t0 sa sb ao mo N b L : Nat} {xs : Nat → Int32} {Sim : Nat → Nat → xSt → xSt → Prop} (hF : lawFix p l s m meth c D la cyI cyF cyM cyJ t0 sa sb ao mo N b L xs Sim) {t : Nat} {x4 : Int32} (ht : t < 512) (hi : 1 + 5 * t + 5 ≤ L) (ex4 : x4 = nI (1 + 5 * t)) {sC sM : xSt} (hSim : Sim mo t sC sM) {H : Heap} {locs : List Loc} {ls : Array Slot} (hH : lawHp D la cyI cyF cyM cyJ ao mo sC sM H) (hS : va_S (fun q => s.heap.size ≤ q) s.heap H locs) (hl : lv_has ls 7 [(0, .ref b), (1, .ref (la 8 0)), (2, .ref (la 9 0)), (3, .ref ao), (4, .int x4)]) (back : lawBack p l e s m below meth c D la cyI cyF cyM cyJ ao mo b t x4 Sim) :
    lawW p l e s m below meth c b H locs (102 + t) (17282 + 6 * t) (F0 m 435 ls []) := by
  obtain ⟨S, hr, hlk, hlt, hX, hbl, hL, hmo, hxC, hxM, hTS, hJ, hVC, hVM, haC, haM, hao0, hdis, hOps⟩ := hF
  have hx := S.1
  have hb := S.2.1
  have hbA : ¬ (fun q => s.heap.size ≤ q) b := Nat.not_le.mpr hbl
  have hO := hOps mo t sC sM hmo ht hSim
  have v1 : vp_in (x4 + 1) L := by rw [ex4]; exact lw_sum hL hi (k := 1) (by decide)
  have v2 : vp_in (x4 + 2) L := by rw [ex4]; exact lw_sum hL hi (k := 2) (by decide)
  have v3 : vp_in (x4 + 3) L := by rw [ex4]; exact lw_sum hL hi (k := 3) (by decide)
  have v4 : vp_in (x4 + 4) L := by rw [ex4]; exact lw_sum hL hi (k := 4) (by decide)
  obtain ⟨hPC, hPM, x0, ho⟩ := hH
  have cM : ∀ H1 : Heap, (∀ q : Nat, q < H.size → ¬ xA (VC mo) la q → H1[q]? = H[q]?) → HW D VM la (EMf cyI la) sM H1 := fun H1 hk => hPM.kept (fun c i hV => hk _ (hPM c i hV).lt (fun z => by obtain ⟨c', i', h1, h2⟩ := z; exact hdis c' i' c i h1 hV h2))
  obtain ⟨r, sC', sM', hfC, hfM, hSim'⟩ := hO.2.2.2.2.2.2.1 (xs (x4 + 1).toNatClampNeg) (xs (x4 + 2).toNatClampNeg)
  refine lv_aload_n hx hb dL_law_435 rfl (lv_at hl 1 rfl) ?_
  refine lv_aload_n hx hb dL_law_436 rfl (lv_at hl 0 rfl) ?_
  refine lv_iload hx hb dL_law_437 (lv_at hl 4 rfl) ?_
  refine lv_iconst (v := 1) hx hb dL_law_439 (by decide) ?_
  refine lv_iadd hx hb dL_law_440 ?_
  refine va_sld hx hb hX hbl hbA hS v1 dL_law_441 ?_
  refine lv_aload_n hx hb dL_law_442 rfl (lv_at hl 0 rfl) ?_
  refine lv_iload hx hb dL_law_443 (lv_at hl 4 rfl) ?_
  refine lv_iconst (v := 2) hx hb dL_law_445 (by decide) ?_
  refine lv_iadd hx hb dL_law_446 ?_
  refine va_sld hx hb hX hbl hbA hS v2 dL_law_447 ?_
  refine L_V S hxC hVC (TX8_argument l hfC) hPC hS rfl KX8_argument ml_L_64 ⟨rfl, rfl⟩ ⟨by decide, by decide⟩ (x_recv (E := fun c i => (ECf cyI cyF cyM mo la) (sC.1 c i) sC.2 c i) (c0 := 8) (i0 := 0) hxC.2.1 hPC rfl (ci := 8) rfl rfl) rfl hl.1 (Nat.le_of_ble_eq_true rfl) ⟨by show 102 + t + 0 ≤ 603072; omega, by show 17282 + 6 * t + 0 ≤ 7218911; omega⟩ dL_law_448 (fun H1 locs1 hPC hS hk => ?_)
  have hPM := cM H1 hk
  have ho : oAt cyJ ao x0 H1 := by
    show H1[ao]? = _
    rw [hk ao (Array.getElem?_eq_some_iff.mp ho).1 haC]
    exact ho
  refine lv_aload_n hx hb dL_law_451 rfl (lv_at hl 2 rfl) ?_
  refine lv_aload_n hx hb dL_law_452 rfl (lv_at hl 0 rfl) ?_
  refine lv_iload hx hb dL_law_453 (lv_at hl 4 rfl) ?_
  refine lv_iconst (v := 1) hx hb dL_law_455 (by decide) ?_
  refine lv_iadd hx hb dL_law_456 ?_
  refine va_sld hx hb hX hbl hbA hS v1 dL_law_457 ?_
  refine lv_aload_n hx hb dL_law_458 rfl (lv_at hl 0 rfl) ?_
  refine lv_iload hx hb dL_law_459 (lv_at hl 4 rfl) ?_
  refine lv_iconst (v := 2) hx hb dL_law_461 (by decide) ?_
  refine lv_iadd hx hb dL_law_462 ?_
  refine va_sld hx hb hX hbl hbA hS v2 dL_law_463 ?_
  refine L_V S hxM hVM (TX9_argument l hfM) hPM hS rfl KX9_argument ml_L_67 ⟨rfl, rfl⟩ ⟨by decide, by decide⟩ (x_recv (E := fun c i => (EMf cyI la) (sM.1 c i) sM.2 c i) (c0 := 9) (i0 := 0) hxM.2.1 hPM rfl (ci := 9) rfl rfl) rfl hl.1 (Nat.le_of_ble_eq_true rfl) ⟨by show 102 + t + 0 ≤ 603072; omega, by show 17282 + 6 * t + 0 ≤ 7218911; omega⟩ dL_law_464 (fun H2 locs2 hPM hS hk => ?_)
  have hPC := hPC.kept (fun c i hV => hk _ (hPC c i hV).lt (fun z => by obtain ⟨c', i', h1, h2⟩ := z; exact hdis c i c' i' hV h1 h2.symm))
  have ho : oAt cyJ ao x0 H2 := by
    show H2[ao]? = _
    rw [hk ao (Array.getElem?_eq_some_iff.mp ho).1 haM]
    exact ho
  refine lv_icmp_eq (tgt := 696) hx hb dL_law_467 (by decide) (fun c1 => ?_) (fun c1 => absurd rfl c1)
  refine W.widen (k := 102 + (t + 1)) (n := 17282 + 6 * (t + 1)) (by omega) (by omega) ?_
  exact back _ _ _ _ _ hSim' ⟨hPC, hPM, x0, ho⟩ hS hl
set_option maxHeartbeats 4000000 in
set_option maxRecDepth 100000 in
theorem lw_case_call {p : Program} {l : Launch} {e : Env} {s : State} {m : MethodId} {below : List Frame} {meth : Method} {c : Code} {D : va_G} {la : Nat → Nat → Nat} {cyI cyF cyM cyJ : ClassId} {t0 sa sb ao mo N b L : Nat} {xs : Nat → Int32} {Sim : Nat → Nat → xSt → xSt → Prop} (hF : lawFix p l s m meth c D la cyI cyF cyM cyJ t0 sa sb ao mo N b L xs Sim) {t : Nat} {x4 : Int32} (ht : t < 512) (hi : 1 + 5 * t + 5 ≤ L) (ex4 : x4 = nI (1 + 5 * t)) {sC sM : xSt} (hSim : Sim mo t sC sM) {H : Heap} {locs : List Loc} {ls : Array Slot} (hH : lawHp D la cyI cyF cyM cyJ ao mo sC sM H) (hS : va_S (fun q => s.heap.size ≤ q) s.heap H locs) (hl : lv_has ls 7 [(0, .ref b), (1, .ref (la 8 0)), (2, .ref (la 9 0)), (3, .ref ao), (4, .int x4)]) (back : lawBack p l e s m below meth c D la cyI cyF cyM cyJ ao mo b t x4 Sim) :
    lawW p l e s m below meth c b H locs (102 + t) (17282 + 6 * t) (F0 m 472 ls []) := by
  obtain ⟨S, hr, hlk, hlt, hX, hbl, hL, hmo, hxC, hxM, hTS, hJ, hVC, hVM, haC, haM, hao0, hdis, hOps⟩ := hF
  have hx := S.1
  have hb := S.2.1
  have hbA : ¬ (fun q => s.heap.size ≤ q) b := Nat.not_le.mpr hbl
  have hO := hOps mo t sC sM hmo ht hSim
  have v1 : vp_in (x4 + 1) L := by rw [ex4]; exact lw_sum hL hi (k := 1) (by decide)
  have v2 : vp_in (x4 + 2) L := by rw [ex4]; exact lw_sum hL hi (k := 2) (by decide)
  have v3 : vp_in (x4 + 3) L := by rw [ex4]; exact lw_sum hL hi (k := 3) (by decide)
  have v4 : vp_in (x4 + 4) L := by rw [ex4]; exact lw_sum hL hi (k := 4) (by decide)
  obtain ⟨hPC, hPM, x0, ho⟩ := hH
  have cM : ∀ H1 : Heap, (∀ q : Nat, q < H.size → ¬ xA (VC mo) la q → H1[q]? = H[q]?) → HW D VM la (EMf cyI la) sM H1 := fun H1 hk => hPM.kept (fun c i hV => hk _ (hPM c i hV).lt (fun z => by obtain ⟨c', i', h1, h2⟩ := z; exact hdis c' i' c i h1 hV h2))
  obtain ⟨r, sC', sM', hfC, hfM, hSim'⟩ := hO.2.2.2.2.2.2.2.1 (xs (x4 + 1).toNatClampNeg) (xs (x4 + 2).toNatClampNeg)
  refine lv_aload_n hx hb dL_law_472 rfl (lv_at hl 1 rfl) ?_
  refine lv_aload_n hx hb dL_law_473 rfl (lv_at hl 0 rfl) ?_
  refine lv_iload hx hb dL_law_474 (lv_at hl 4 rfl) ?_
  refine lv_iconst (v := 1) hx hb dL_law_476 (by decide) ?_
  refine lv_iadd hx hb dL_law_477 ?_
  refine va_sld hx hb hX hbl hbA hS v1 dL_law_478 ?_
  refine lv_aload_n hx hb dL_law_479 rfl (lv_at hl 0 rfl) ?_
  refine lv_iload hx hb dL_law_480 (lv_at hl 4 rfl) ?_
  refine lv_iconst (v := 2) hx hb dL_law_482 (by decide) ?_
  refine lv_iadd hx hb dL_law_483 ?_
  refine va_sld hx hb hX hbl hbA hS v2 dL_law_484 ?_
  refine L_V S hxC hVC (TX8_call l hfC) hPC hS rfl KX8_call ml_L_68 ⟨rfl, rfl⟩ ⟨by decide, by decide⟩ (x_recv (E := fun c i => (ECf cyI cyF cyM mo la) (sC.1 c i) sC.2 c i) (c0 := 8) (i0 := 0) hxC.2.1 hPC rfl (ci := 8) rfl rfl) rfl hl.1 (Nat.le_of_ble_eq_true rfl) ⟨by show 102 + t + 0 ≤ 603072; omega, by show 17282 + 6 * t + 0 ≤ 7218911; omega⟩ dL_law_485 (fun H1 locs1 hPC hS hk => ?_)
  have hPM := cM H1 hk
  have ho : oAt cyJ ao x0 H1 := by
    show H1[ao]? = _
    rw [hk ao (Array.getElem?_eq_some_iff.mp ho).1 haC]
    exact ho
  refine lv_aload_n hx hb dL_law_488 rfl (lv_at hl 2 rfl) ?_
  refine lv_aload_n hx hb dL_law_489 rfl (lv_at hl 0 rfl) ?_
  refine lv_iload hx hb dL_law_490 (lv_at hl 4 rfl) ?_
  refine lv_iconst (v := 1) hx hb dL_law_492 (by decide) ?_
  refine lv_iadd hx hb dL_law_493 ?_
  refine va_sld hx hb hX hbl hbA hS v1 dL_law_494 ?_
  refine lv_aload_n hx hb dL_law_495 rfl (lv_at hl 0 rfl) ?_
  refine lv_iload hx hb dL_law_496 (lv_at hl 4 rfl) ?_
  refine lv_iconst (v := 2) hx hb dL_law_498 (by decide) ?_
  refine lv_iadd hx hb dL_law_499 ?_
  refine va_sld hx hb hX hbl hbA hS v2 dL_law_500 ?_
  refine L_V S hxM hVM (TX9_call l hfM) hPM hS rfl KX9_call ml_L_71 ⟨rfl, rfl⟩ ⟨by decide, by decide⟩ (x_recv (E := fun c i => (EMf cyI la) (sM.1 c i) sM.2 c i) (c0 := 9) (i0 := 0) hxM.2.1 hPM rfl (ci := 9) rfl rfl) rfl hl.1 (Nat.le_of_ble_eq_true rfl) ⟨by show 102 + t + 0 ≤ 603072; omega, by show 17282 + 6 * t + 0 ≤ 7218911; omega⟩ dL_law_501 (fun H2 locs2 hPM hS hk => ?_)
  have hPC := hPC.kept (fun c i hV => hk _ (hPC c i hV).lt (fun z => by obtain ⟨c', i', h1, h2⟩ := z; exact hdis c i c' i' hV h1 h2.symm))
  have ho : oAt cyJ ao x0 H2 := by
    show H2[ao]? = _
    rw [hk ao (Array.getElem?_eq_some_iff.mp ho).1 haM]
    exact ho
  refine lv_icmp_eq (tgt := 696) hx hb dL_law_504 (by decide) (fun c1 => ?_) (fun c1 => absurd rfl c1)
  refine W.widen (k := 102 + (t + 1)) (n := 17282 + 6 * (t + 1)) (by omega) (by omega) ?_
  exact back _ _ _ _ _ hSim' ⟨hPC, hPM, x0, ho⟩ hS hl
set_option maxHeartbeats 4000000 in
set_option maxRecDepth 100000 in
theorem lw_case_walk {p : Program} {l : Launch} {e : Env} {s : State} {m : MethodId} {below : List Frame} {meth : Method} {c : Code} {D : va_G} {la : Nat → Nat → Nat} {cyI cyF cyM cyJ : ClassId} {t0 sa sb ao mo N b L : Nat} {xs : Nat → Int32} {Sim : Nat → Nat → xSt → xSt → Prop} (hF : lawFix p l s m meth c D la cyI cyF cyM cyJ t0 sa sb ao mo N b L xs Sim) {t : Nat} {x4 : Int32} (ht : t < 512) (hi : 1 + 5 * t + 5 ≤ L) (ex4 : x4 = nI (1 + 5 * t)) {sC sM : xSt} (hSim : Sim mo t sC sM) {H : Heap} {locs : List Loc} {ls : Array Slot} (hH : lawHp D la cyI cyF cyM cyJ ao mo sC sM H) (hS : va_S (fun q => s.heap.size ≤ q) s.heap H locs) (hl : lv_has ls 7 [(0, .ref b), (1, .ref (la 8 0)), (2, .ref (la 9 0)), (3, .ref ao), (4, .int x4)]) (back : lawBack p l e s m below meth c D la cyI cyF cyM cyJ ao mo b t x4 Sim) :
    lawW p l e s m below meth c b H locs (102 + t) (17282 + 6 * t) (F0 m 509 ls []) := by
  obtain ⟨S, hr, hlk, hlt, hX, hbl, hL, hmo, hxC, hxM, hTS, hJ, hVC, hVM, haC, haM, hao0, hdis, hOps⟩ := hF
  have hx := S.1
  have hb := S.2.1
  have hbA : ¬ (fun q => s.heap.size ≤ q) b := Nat.not_le.mpr hbl
  have hO := hOps mo t sC sM hmo ht hSim
  have v1 : vp_in (x4 + 1) L := by rw [ex4]; exact lw_sum hL hi (k := 1) (by decide)
  have v2 : vp_in (x4 + 2) L := by rw [ex4]; exact lw_sum hL hi (k := 2) (by decide)
  have v3 : vp_in (x4 + 3) L := by rw [ex4]; exact lw_sum hL hi (k := 3) (by decide)
  have v4 : vp_in (x4 + 4) L := by rw [ex4]; exact lw_sum hL hi (k := 4) (by decide)
  obtain ⟨hPC, hPM, x0, ho⟩ := hH
  have cM : ∀ H1 : Heap, (∀ q : Nat, q < H.size → ¬ xA (VC mo) la q → H1[q]? = H[q]?) → HW D VM la (EMf cyI la) sM H1 := fun H1 hk => hPM.kept (fun c i hV => hk _ (hPM c i hV).lt (fun z => by obtain ⟨c', i', h1, h2⟩ := z; exact hdis c' i' c i h1 hV h2))
  obtain ⟨r, sC', sM', hfC, hfM, hSim'⟩ := hO.2.2.2.2.2.2.2.2.1 (xs (x4 + 1).toNatClampNeg) (xs (x4 + 2).toNatClampNeg)
  refine lv_aload_n hx hb dL_law_509 rfl (lv_at hl 1 rfl) ?_
  refine lv_aload_n hx hb dL_law_510 rfl (lv_at hl 0 rfl) ?_
  refine lv_iload hx hb dL_law_511 (lv_at hl 4 rfl) ?_
  refine lv_iconst (v := 1) hx hb dL_law_513 (by decide) ?_
  refine lv_iadd hx hb dL_law_514 ?_
  refine va_sld hx hb hX hbl hbA hS v1 dL_law_515 ?_
  refine lv_aload_n hx hb dL_law_516 rfl (lv_at hl 0 rfl) ?_
  refine lv_iload hx hb dL_law_517 (lv_at hl 4 rfl) ?_
  refine lv_iconst (v := 2) hx hb dL_law_519 (by decide) ?_
  refine lv_iadd hx hb dL_law_520 ?_
  refine va_sld hx hb hX hbl hbA hS v2 dL_law_521 ?_
  refine L_V S hxC hVC (TX8_walk l hfC) hPC hS rfl KX8_walk ml_L_72 ⟨rfl, rfl⟩ ⟨by decide, by decide⟩ (x_recv (E := fun c i => (ECf cyI cyF cyM mo la) (sC.1 c i) sC.2 c i) (c0 := 8) (i0 := 0) hxC.2.1 hPC rfl (ci := 8) rfl rfl) rfl hl.1 (Nat.le_of_ble_eq_true rfl) ⟨by show 102 + t + 0 ≤ 603072; omega, by show 17282 + 6 * t + 0 ≤ 7218911; omega⟩ dL_law_522 (fun H1 locs1 hPC hS hk => ?_)
  have hPM := cM H1 hk
  have ho : oAt cyJ ao x0 H1 := by
    show H1[ao]? = _
    rw [hk ao (Array.getElem?_eq_some_iff.mp ho).1 haC]
    exact ho
  refine lv_aload_n hx hb dL_law_525 rfl (lv_at hl 2 rfl) ?_
  refine lv_aload_n hx hb dL_law_526 rfl (lv_at hl 0 rfl) ?_
  refine lv_iload hx hb dL_law_527 (lv_at hl 4 rfl) ?_
  refine lv_iconst (v := 1) hx hb dL_law_529 (by decide) ?_
  refine lv_iadd hx hb dL_law_530 ?_
  refine va_sld hx hb hX hbl hbA hS v1 dL_law_531 ?_
  refine lv_aload_n hx hb dL_law_532 rfl (lv_at hl 0 rfl) ?_
  refine lv_iload hx hb dL_law_533 (lv_at hl 4 rfl) ?_
  refine lv_iconst (v := 2) hx hb dL_law_535 (by decide) ?_
  refine lv_iadd hx hb dL_law_536 ?_
  refine va_sld hx hb hX hbl hbA hS v2 dL_law_537 ?_
  refine L_V S hxM hVM (TX9_walk l hfM) hPM hS rfl KX9_walk ml_L_75 ⟨rfl, rfl⟩ ⟨by decide, by decide⟩ (x_recv (E := fun c i => (EMf cyI la) (sM.1 c i) sM.2 c i) (c0 := 9) (i0 := 0) hxM.2.1 hPM rfl (ci := 9) rfl rfl) rfl hl.1 (Nat.le_of_ble_eq_true rfl) ⟨by show 102 + t + 0 ≤ 603072; omega, by show 17282 + 6 * t + 0 ≤ 7218911; omega⟩ dL_law_538 (fun H2 locs2 hPM hS hk => ?_)
  have hPC := hPC.kept (fun c i hV => hk _ (hPC c i hV).lt (fun z => by obtain ⟨c', i', h1, h2⟩ := z; exact hdis c i c' i' hV h1 h2.symm))
  have ho : oAt cyJ ao x0 H2 := by
    show H2[ao]? = _
    rw [hk ao (Array.getElem?_eq_some_iff.mp ho).1 haM]
    exact ho
  refine lv_icmp_eq (tgt := 696) hx hb dL_law_541 (by decide) (fun c1 => ?_) (fun c1 => absurd rfl c1)
  refine W.widen (k := 102 + (t + 1)) (n := 17282 + 6 * (t + 1)) (by omega) (by omega) ?_
  exact back _ _ _ _ _ hSim' ⟨hPC, hPM, x0, ho⟩ hS hl
set_option maxHeartbeats 4000000 in
set_option maxRecDepth 100000 in
theorem lw_case_result {p : Program} {l : Launch} {e : Env} {s : State} {m : MethodId} {below : List Frame} {meth : Method} {c : Code} {D : va_G} {la : Nat → Nat → Nat} {cyI cyF cyM cyJ : ClassId} {t0 sa sb ao mo N b L : Nat} {xs : Nat → Int32} {Sim : Nat → Nat → xSt → xSt → Prop} (hF : lawFix p l s m meth c D la cyI cyF cyM cyJ t0 sa sb ao mo N b L xs Sim) {t : Nat} {x4 : Int32} (ht : t < 512) (hi : 1 + 5 * t + 5 ≤ L) (ex4 : x4 = nI (1 + 5 * t)) {sC sM : xSt} (hSim : Sim mo t sC sM) {H : Heap} {locs : List Loc} {ls : Array Slot} (hH : lawHp D la cyI cyF cyM cyJ ao mo sC sM H) (hS : va_S (fun q => s.heap.size ≤ q) s.heap H locs) (hl : lv_has ls 7 [(0, .ref b), (1, .ref (la 8 0)), (2, .ref (la 9 0)), (3, .ref ao), (4, .int x4)]) (back : lawBack p l e s m below meth c D la cyI cyF cyM cyJ ao mo b t x4 Sim) :
    lawW p l e s m below meth c b H locs (102 + t) (17282 + 6 * t) (F0 m 546 ls []) := by
  obtain ⟨S, hr, hlk, hlt, hX, hbl, hL, hmo, hxC, hxM, hTS, hJ, hVC, hVM, haC, haM, hao0, hdis, hOps⟩ := hF
  have hx := S.1
  have hb := S.2.1
  have hbA : ¬ (fun q => s.heap.size ≤ q) b := Nat.not_le.mpr hbl
  have hO := hOps mo t sC sM hmo ht hSim
  have v1 : vp_in (x4 + 1) L := by rw [ex4]; exact lw_sum hL hi (k := 1) (by decide)
  have v2 : vp_in (x4 + 2) L := by rw [ex4]; exact lw_sum hL hi (k := 2) (by decide)
  have v3 : vp_in (x4 + 3) L := by rw [ex4]; exact lw_sum hL hi (k := 3) (by decide)
  have v4 : vp_in (x4 + 4) L := by rw [ex4]; exact lw_sum hL hi (k := 4) (by decide)
  obtain ⟨hPC, hPM, x0, ho⟩ := hH
  have cM : ∀ H1 : Heap, (∀ q : Nat, q < H.size → ¬ xA (VC mo) la q → H1[q]? = H[q]?) → HW D VM la (EMf cyI la) sM H1 := fun H1 hk => hPM.kept (fun c i hV => hk _ (hPM c i hV).lt (fun z => by obtain ⟨c', i', h1, h2⟩ := z; exact hdis c' i' c i h1 hV h2))
  obtain ⟨r, sC', sM', hfC, hfM, hSim'⟩ := hO.2.2.2.2.2.2.2.2.2.1 
  refine lv_aload_n hx hb dL_law_546 rfl (lv_at hl 1 rfl) ?_
  refine L_V S hxC hVC (TX8_result l hfC) hPC hS rfl KX8_result ml_L_76 ⟨rfl, rfl⟩ ⟨by decide, by decide⟩ (x_recv (E := fun c i => (ECf cyI cyF cyM mo la) (sC.1 c i) sC.2 c i) (c0 := 8) (i0 := 0) hxC.2.1 hPC rfl (ci := 8) rfl rfl) rfl hl.1 (Nat.le_of_ble_eq_true rfl) ⟨by show 102 + t + 0 ≤ 603072; omega, by show 17282 + 6 * t + 0 ≤ 7218911; omega⟩ dL_law_547 (fun H1 locs1 hPC hS hk => ?_)
  have hPM := cM H1 hk
  have ho : oAt cyJ ao x0 H1 := by
    show H1[ao]? = _
    rw [hk ao (Array.getElem?_eq_some_iff.mp ho).1 haC]
    exact ho
  refine lv_aload_n hx hb dL_law_550 rfl (lv_at hl 2 rfl) ?_
  refine L_V S hxM hVM (TX9_result l hfM) hPM hS rfl KX9_result ml_L_79 ⟨rfl, rfl⟩ ⟨by decide, by decide⟩ (x_recv (E := fun c i => (EMf cyI la) (sM.1 c i) sM.2 c i) (c0 := 9) (i0 := 0) hxM.2.1 hPM rfl (ci := 9) rfl rfl) rfl hl.1 (Nat.le_of_ble_eq_true rfl) ⟨by show 102 + t + 0 ≤ 603072; omega, by show 17282 + 6 * t + 0 ≤ 7218911; omega⟩ dL_law_551 (fun H2 locs2 hPM hS hk => ?_)
  have hPC := hPC.kept (fun c i hV => hk _ (hPC c i hV).lt (fun z => by obtain ⟨c', i', h1, h2⟩ := z; exact hdis c i c' i' hV h1 h2.symm))
  have ho : oAt cyJ ao x0 H2 := by
    show H2[ao]? = _
    rw [hk ao (Array.getElem?_eq_some_iff.mp ho).1 haM]
    exact ho
  refine lv_icmp_eq (tgt := 696) hx hb dL_law_554 (by decide) (fun c1 => ?_) (fun c1 => absurd rfl c1)
  refine W.widen (k := 102 + (t + 1)) (n := 17282 + 6 * (t + 1)) (by omega) (by omega) ?_
  exact back _ _ _ _ _ hSim' ⟨hPC, hPM, x0, ho⟩ hS hl
set_option maxHeartbeats 4000000 in
set_option maxRecDepth 100000 in
theorem lw_case_fault {p : Program} {l : Launch} {e : Env} {s : State} {m : MethodId} {below : List Frame} {meth : Method} {c : Code} {D : va_G} {la : Nat → Nat → Nat} {cyI cyF cyM cyJ : ClassId} {t0 sa sb ao mo N b L : Nat} {xs : Nat → Int32} {Sim : Nat → Nat → xSt → xSt → Prop} (hF : lawFix p l s m meth c D la cyI cyF cyM cyJ t0 sa sb ao mo N b L xs Sim) {t : Nat} {x4 : Int32} (ht : t < 512) (hi : 1 + 5 * t + 5 ≤ L) (ex4 : x4 = nI (1 + 5 * t)) {sC sM : xSt} (hSim : Sim mo t sC sM) {H : Heap} {locs : List Loc} {ls : Array Slot} (hH : lawHp D la cyI cyF cyM cyJ ao mo sC sM H) (hS : va_S (fun q => s.heap.size ≤ q) s.heap H locs) (hl : lv_has ls 7 [(0, .ref b), (1, .ref (la 8 0)), (2, .ref (la 9 0)), (3, .ref ao), (4, .int x4)]) (back : lawBack p l e s m below meth c D la cyI cyF cyM cyJ ao mo b t x4 Sim) :
    lawW p l e s m below meth c b H locs (102 + t) (17282 + 6 * t) (F0 m 559 ls []) := by
  obtain ⟨S, hr, hlk, hlt, hX, hbl, hL, hmo, hxC, hxM, hTS, hJ, hVC, hVM, haC, haM, hao0, hdis, hOps⟩ := hF
  have hx := S.1
  have hb := S.2.1
  have hbA : ¬ (fun q => s.heap.size ≤ q) b := Nat.not_le.mpr hbl
  have hO := hOps mo t sC sM hmo ht hSim
  have v1 : vp_in (x4 + 1) L := by rw [ex4]; exact lw_sum hL hi (k := 1) (by decide)
  have v2 : vp_in (x4 + 2) L := by rw [ex4]; exact lw_sum hL hi (k := 2) (by decide)
  have v3 : vp_in (x4 + 3) L := by rw [ex4]; exact lw_sum hL hi (k := 3) (by decide)
  have v4 : vp_in (x4 + 4) L := by rw [ex4]; exact lw_sum hL hi (k := 4) (by decide)
  obtain ⟨hPC, hPM, x0, ho⟩ := hH
  have cM : ∀ H1 : Heap, (∀ q : Nat, q < H.size → ¬ xA (VC mo) la q → H1[q]? = H[q]?) → HW D VM la (EMf cyI la) sM H1 := fun H1 hk => hPM.kept (fun c i hV => hk _ (hPM c i hV).lt (fun z => by obtain ⟨c', i', h1, h2⟩ := z; exact hdis c' i' c i h1 hV h2))
  obtain ⟨r, sC', sM', hfC, hfM, hSim'⟩ := hO.2.2.2.2.2.2.2.2.2.2.1 (xs (x4 + 1).toNatClampNeg)
  refine lv_aload_n hx hb dL_law_559 rfl (lv_at hl 1 rfl) ?_
  refine lv_aload_n hx hb dL_law_560 rfl (lv_at hl 0 rfl) ?_
  refine lv_iload hx hb dL_law_561 (lv_at hl 4 rfl) ?_
  refine lv_iconst (v := 1) hx hb dL_law_563 (by decide) ?_
  refine lv_iadd hx hb dL_law_564 ?_
  refine va_sld hx hb hX hbl hbA hS v1 dL_law_565 ?_
  refine L_V S hxC hVC (TX8_fault l hfC) hPC hS rfl KX8_fault ml_L_80 ⟨rfl, rfl⟩ ⟨by decide, by decide⟩ (x_recv (E := fun c i => (ECf cyI cyF cyM mo la) (sC.1 c i) sC.2 c i) (c0 := 8) (i0 := 0) hxC.2.1 hPC rfl (ci := 8) rfl rfl) rfl hl.1 (Nat.le_of_ble_eq_true rfl) ⟨by show 102 + t + 0 ≤ 603072; omega, by show 17282 + 6 * t + 0 ≤ 7218911; omega⟩ dL_law_566 (fun H1 locs1 hPC hS hk => ?_)
  have hPM := cM H1 hk
  have ho : oAt cyJ ao x0 H1 := by
    show H1[ao]? = _
    rw [hk ao (Array.getElem?_eq_some_iff.mp ho).1 haC]
    exact ho
  refine lv_aload_n hx hb dL_law_569 rfl (lv_at hl 2 rfl) ?_
  refine lv_aload_n hx hb dL_law_570 rfl (lv_at hl 0 rfl) ?_
  refine lv_iload hx hb dL_law_571 (lv_at hl 4 rfl) ?_
  refine lv_iconst (v := 1) hx hb dL_law_573 (by decide) ?_
  refine lv_iadd hx hb dL_law_574 ?_
  refine va_sld hx hb hX hbl hbA hS v1 dL_law_575 ?_
  refine L_V S hxM hVM (TX9_fault l hfM) hPM hS rfl KX9_fault ml_L_83 ⟨rfl, rfl⟩ ⟨by decide, by decide⟩ (x_recv (E := fun c i => (EMf cyI la) (sM.1 c i) sM.2 c i) (c0 := 9) (i0 := 0) hxM.2.1 hPM rfl (ci := 9) rfl rfl) rfl hl.1 (Nat.le_of_ble_eq_true rfl) ⟨by show 102 + t + 0 ≤ 603072; omega, by show 17282 + 6 * t + 0 ≤ 7218911; omega⟩ dL_law_576 (fun H2 locs2 hPM hS hk => ?_)
  have hPC := hPC.kept (fun c i hV => hk _ (hPC c i hV).lt (fun z => by obtain ⟨c', i', h1, h2⟩ := z; exact hdis c i c' i' hV h1 h2.symm))
  have ho : oAt cyJ ao x0 H2 := by
    show H2[ao]? = _
    rw [hk ao (Array.getElem?_eq_some_iff.mp ho).1 haM]
    exact ho
  refine lv_icmp_eq (tgt := 696) hx hb dL_law_579 (by decide) (fun c1 => ?_) (fun c1 => absurd rfl c1)
  refine W.widen (k := 102 + (t + 1)) (n := 17282 + 6 * (t + 1)) (by omega) (by omega) ?_
  exact back _ _ _ _ _ hSim' ⟨hPC, hPM, x0, ho⟩ hS hl
set_option maxHeartbeats 4000000 in
set_option maxRecDepth 100000 in
theorem lw_case_accelerate {p : Program} {l : Launch} {e : Env} {s : State} {m : MethodId} {below : List Frame} {meth : Method} {c : Code} {D : va_G} {la : Nat → Nat → Nat} {cyI cyF cyM cyJ : ClassId} {t0 sa sb ao mo N b L : Nat} {xs : Nat → Int32} {Sim : Nat → Nat → xSt → xSt → Prop} (hF : lawFix p l s m meth c D la cyI cyF cyM cyJ t0 sa sb ao mo N b L xs Sim) {t : Nat} {x4 : Int32} (ht : t < 512) (hi : 1 + 5 * t + 5 ≤ L) (ex4 : x4 = nI (1 + 5 * t)) {sC sM : xSt} (hSim : Sim mo t sC sM) {H : Heap} {locs : List Loc} {ls : Array Slot} (hH : lawHp D la cyI cyF cyM cyJ ao mo sC sM H) (hS : va_S (fun q => s.heap.size ≤ q) s.heap H locs) (hl : lv_has ls 7 [(0, .ref b), (1, .ref (la 8 0)), (2, .ref (la 9 0)), (3, .ref ao), (4, .int x4)]) (back : lawBack p l e s m below meth c D la cyI cyF cyM cyJ ao mo b t x4 Sim) :
    lawW p l e s m below meth c b H locs (102 + t) (17282 + 6 * t) (F0 m 584 ls []) := by
  obtain ⟨S, hr, hlk, hlt, hX, hbl, hL, hmo, hxC, hxM, hTS, hJ, hVC, hVM, haC, haM, hao0, hdis, hOps⟩ := hF
  have hx := S.1
  have hb := S.2.1
  have hbA : ¬ (fun q => s.heap.size ≤ q) b := Nat.not_le.mpr hbl
  have hO := hOps mo t sC sM hmo ht hSim
  have v1 : vp_in (x4 + 1) L := by rw [ex4]; exact lw_sum hL hi (k := 1) (by decide)
  have v2 : vp_in (x4 + 2) L := by rw [ex4]; exact lw_sum hL hi (k := 2) (by decide)
  have v3 : vp_in (x4 + 3) L := by rw [ex4]; exact lw_sum hL hi (k := 3) (by decide)
  have v4 : vp_in (x4 + 4) L := by rw [ex4]; exact lw_sum hL hi (k := 4) (by decide)
  obtain ⟨hPC, hPM, x0, ho⟩ := hH
  have cM : ∀ H1 : Heap, (∀ q : Nat, q < H.size → ¬ xA (VC mo) la q → H1[q]? = H[q]?) → HW D VM la (EMf cyI la) sM H1 := fun H1 hk => hPM.kept (fun c i hV => hk _ (hPM c i hV).lt (fun z => by obtain ⟨c', i', h1, h2⟩ := z; exact hdis c' i' c i h1 hV h2))
  obtain ⟨r, sC', sM', hfC, hfM, hSim'⟩ := hO.2.2.2.2.2.2.2.2.2.2.2.1 (xs (x4 + 1).toNatClampNeg) (xs (x4 + 2).toNatClampNeg)
  refine lv_aload_n hx hb dL_law_584 rfl (lv_at hl 1 rfl) ?_
  refine lv_aload_n hx hb dL_law_585 rfl (lv_at hl 0 rfl) ?_
  refine lv_iload hx hb dL_law_586 (lv_at hl 4 rfl) ?_
  refine lv_iconst (v := 1) hx hb dL_law_588 (by decide) ?_
  refine lv_iadd hx hb dL_law_589 ?_
  refine va_sld hx hb hX hbl hbA hS v1 dL_law_590 ?_
  refine lv_aload_n hx hb dL_law_591 rfl (lv_at hl 0 rfl) ?_
  refine lv_iload hx hb dL_law_592 (lv_at hl 4 rfl) ?_
  refine lv_iconst (v := 2) hx hb dL_law_594 (by decide) ?_
  refine lv_iadd hx hb dL_law_595 ?_
  refine va_sld hx hb hX hbl hbA hS v2 dL_law_596 ?_
  refine L_V S hxC hVC (TX8_accelerate l hfC) hPC hS rfl KX8_accelerate ml_L_84 ⟨rfl, rfl⟩ ⟨by decide, by decide⟩ (x_recv (E := fun c i => (ECf cyI cyF cyM mo la) (sC.1 c i) sC.2 c i) (c0 := 8) (i0 := 0) hxC.2.1 hPC rfl (ci := 8) rfl rfl) rfl hl.1 (Nat.le_of_ble_eq_true rfl) ⟨by show 102 + t + 0 ≤ 603072; omega, by show 17282 + 6 * t + 0 ≤ 7218911; omega⟩ dL_law_597 (fun H1 locs1 hPC hS hk => ?_)
  have hPM := cM H1 hk
  have ho : oAt cyJ ao x0 H1 := by
    show H1[ao]? = _
    rw [hk ao (Array.getElem?_eq_some_iff.mp ho).1 haC]
    exact ho
  refine lv_aload_n hx hb dL_law_600 rfl (lv_at hl 2 rfl) ?_
  refine lv_aload_n hx hb dL_law_601 rfl (lv_at hl 0 rfl) ?_
  refine lv_iload hx hb dL_law_602 (lv_at hl 4 rfl) ?_
  refine lv_iconst (v := 1) hx hb dL_law_604 (by decide) ?_
  refine lv_iadd hx hb dL_law_605 ?_
  refine va_sld hx hb hX hbl hbA hS v1 dL_law_606 ?_
  refine lv_aload_n hx hb dL_law_607 rfl (lv_at hl 0 rfl) ?_
  refine lv_iload hx hb dL_law_608 (lv_at hl 4 rfl) ?_
  refine lv_iconst (v := 2) hx hb dL_law_610 (by decide) ?_
  refine lv_iadd hx hb dL_law_611 ?_
  refine va_sld hx hb hX hbl hbA hS v2 dL_law_612 ?_
  refine L_V S hxM hVM (TX9_accelerate l hfM) hPM hS rfl KX9_accelerate ml_L_87 ⟨rfl, rfl⟩ ⟨by decide, by decide⟩ (x_recv (E := fun c i => (EMf cyI la) (sM.1 c i) sM.2 c i) (c0 := 9) (i0 := 0) hxM.2.1 hPM rfl (ci := 9) rfl rfl) rfl hl.1 (Nat.le_of_ble_eq_true rfl) ⟨by show 102 + t + 0 ≤ 603072; omega, by show 17282 + 6 * t + 0 ≤ 7218911; omega⟩ dL_law_613 (fun H2 locs2 hPM hS hk => ?_)
  have hPC := hPC.kept (fun c i hV => hk _ (hPC c i hV).lt (fun z => by obtain ⟨c', i', h1, h2⟩ := z; exact hdis c i c' i' hV h1 h2.symm))
  have ho : oAt cyJ ao x0 H2 := by
    show H2[ao]? = _
    rw [hk ao (Array.getElem?_eq_some_iff.mp ho).1 haM]
    exact ho
  refine lv_icmp_eq (tgt := 696) hx hb dL_law_616 (by decide) (fun c1 => ?_) (fun c1 => absurd rfl c1)
  refine W.widen (k := 102 + (t + 1)) (n := 17282 + 6 * (t + 1)) (by omega) (by omega) ?_
  exact back _ _ _ _ _ hSim' ⟨hPC, hPM, x0, ho⟩ hS hl
set_option maxHeartbeats 4000000 in
set_option maxRecDepth 100000 in
theorem lw_case_kept {p : Program} {l : Launch} {e : Env} {s : State} {m : MethodId} {below : List Frame} {meth : Method} {c : Code} {D : va_G} {la : Nat → Nat → Nat} {cyI cyF cyM cyJ : ClassId} {t0 sa sb ao mo N b L : Nat} {xs : Nat → Int32} {Sim : Nat → Nat → xSt → xSt → Prop} (hF : lawFix p l s m meth c D la cyI cyF cyM cyJ t0 sa sb ao mo N b L xs Sim) {t : Nat} {x4 : Int32} (ht : t < 512) (hi : 1 + 5 * t + 5 ≤ L) (ex4 : x4 = nI (1 + 5 * t)) {sC sM : xSt} (hSim : Sim mo t sC sM) {H : Heap} {locs : List Loc} {ls : Array Slot} (hH : lawHp D la cyI cyF cyM cyJ ao mo sC sM H) (hS : va_S (fun q => s.heap.size ≤ q) s.heap H locs) (hl : lv_has ls 7 [(0, .ref b), (1, .ref (la 8 0)), (2, .ref (la 9 0)), (3, .ref ao), (4, .int x4)]) (back : lawBack p l e s m below meth c D la cyI cyF cyM cyJ ao mo b t x4 Sim) :
    lawW p l e s m below meth c b H locs (102 + t) (17282 + 6 * t) (F0 m 621 ls []) := by
  obtain ⟨S, hr, hlk, hlt, hX, hbl, hL, hmo, hxC, hxM, hTS, hJ, hVC, hVM, haC, haM, hao0, hdis, hOps⟩ := hF
  have hx := S.1
  have hb := S.2.1
  have hbA : ¬ (fun q => s.heap.size ≤ q) b := Nat.not_le.mpr hbl
  have hO := hOps mo t sC sM hmo ht hSim
  have v1 : vp_in (x4 + 1) L := by rw [ex4]; exact lw_sum hL hi (k := 1) (by decide)
  have v2 : vp_in (x4 + 2) L := by rw [ex4]; exact lw_sum hL hi (k := 2) (by decide)
  have v3 : vp_in (x4 + 3) L := by rw [ex4]; exact lw_sum hL hi (k := 3) (by decide)
  have v4 : vp_in (x4 + 4) L := by rw [ex4]; exact lw_sum hL hi (k := 4) (by decide)
  obtain ⟨hPC, hPM, x0, ho⟩ := hH
  have cM : ∀ H1 : Heap, (∀ q : Nat, q < H.size → ¬ xA (VC mo) la q → H1[q]? = H[q]?) → HW D VM la (EMf cyI la) sM H1 := fun H1 hk => hPM.kept (fun c i hV => hk _ (hPM c i hV).lt (fun z => by obtain ⟨c', i', h1, h2⟩ := z; exact hdis c' i' c i h1 hV h2))
  obtain ⟨r, sC', sM', hfC, hfM, hSim'⟩ := hO.2.2.2.2.2.2.2.2.2.2.2.2.1 (xs (x4 + 1).toNatClampNeg)
  refine lv_aload_n hx hb dL_law_621 rfl (lv_at hl 1 rfl) ?_
  refine lv_aload_n hx hb dL_law_622 rfl (lv_at hl 0 rfl) ?_
  refine lv_iload hx hb dL_law_623 (lv_at hl 4 rfl) ?_
  refine lv_iconst (v := 1) hx hb dL_law_625 (by decide) ?_
  refine lv_iadd hx hb dL_law_626 ?_
  refine va_sld hx hb hX hbl hbA hS v1 dL_law_627 ?_
  refine L_V S hxC hVC (TX8_kept l hfC) hPC hS rfl KX8_kept ml_L_88 ⟨rfl, rfl⟩ ⟨by decide, by decide⟩ (x_recv (E := fun c i => (ECf cyI cyF cyM mo la) (sC.1 c i) sC.2 c i) (c0 := 8) (i0 := 0) hxC.2.1 hPC rfl (ci := 8) rfl rfl) rfl hl.1 (Nat.le_of_ble_eq_true rfl) ⟨by show 102 + t + 0 ≤ 603072; omega, by show 17282 + 6 * t + 0 ≤ 7218911; omega⟩ dL_law_628 (fun H1 locs1 hPC hS hk => ?_)
  have hPM := cM H1 hk
  have ho : oAt cyJ ao x0 H1 := by
    show H1[ao]? = _
    rw [hk ao (Array.getElem?_eq_some_iff.mp ho).1 haC]
    exact ho
  refine lv_aload_n hx hb dL_law_631 rfl (lv_at hl 2 rfl) ?_
  refine lv_aload_n hx hb dL_law_632 rfl (lv_at hl 0 rfl) ?_
  refine lv_iload hx hb dL_law_633 (lv_at hl 4 rfl) ?_
  refine lv_iconst (v := 1) hx hb dL_law_635 (by decide) ?_
  refine lv_iadd hx hb dL_law_636 ?_
  refine va_sld hx hb hX hbl hbA hS v1 dL_law_637 ?_
  refine L_V S hxM hVM (TX9_kept l hfM) hPM hS rfl KX9_kept ml_L_91 ⟨rfl, rfl⟩ ⟨by decide, by decide⟩ (x_recv (E := fun c i => (EMf cyI la) (sM.1 c i) sM.2 c i) (c0 := 9) (i0 := 0) hxM.2.1 hPM rfl (ci := 9) rfl rfl) rfl hl.1 (Nat.le_of_ble_eq_true rfl) ⟨by show 102 + t + 0 ≤ 603072; omega, by show 17282 + 6 * t + 0 ≤ 7218911; omega⟩ dL_law_638 (fun H2 locs2 hPM hS hk => ?_)
  have hPC := hPC.kept (fun c i hV => hk _ (hPC c i hV).lt (fun z => by obtain ⟨c', i', h1, h2⟩ := z; exact hdis c i c' i' hV h1 h2.symm))
  have ho : oAt cyJ ao x0 H2 := by
    show H2[ao]? = _
    rw [hk ao (Array.getElem?_eq_some_iff.mp ho).1 haM]
    exact ho
  refine lv_icmp_eq (tgt := 696) hx hb dL_law_641 (by decide) (fun c1 => ?_) (fun c1 => absurd rfl c1)
  refine W.widen (k := 102 + (t + 1)) (n := 17282 + 6 * (t + 1)) (by omega) (by omega) ?_
  exact back _ _ _ _ _ hSim' ⟨hPC, hPM, x0, ho⟩ hS hl
set_option maxHeartbeats 4000000 in
set_option maxRecDepth 100000 in
theorem lw_case_drop {p : Program} {l : Launch} {e : Env} {s : State} {m : MethodId} {below : List Frame} {meth : Method} {c : Code} {D : va_G} {la : Nat → Nat → Nat} {cyI cyF cyM cyJ : ClassId} {t0 sa sb ao mo N b L : Nat} {xs : Nat → Int32} {Sim : Nat → Nat → xSt → xSt → Prop} (hF : lawFix p l s m meth c D la cyI cyF cyM cyJ t0 sa sb ao mo N b L xs Sim) {t : Nat} {x4 : Int32} (ht : t < 512) (hi : 1 + 5 * t + 5 ≤ L) (ex4 : x4 = nI (1 + 5 * t)) {sC sM : xSt} (hSim : Sim mo t sC sM) {H : Heap} {locs : List Loc} {ls : Array Slot} (hH : lawHp D la cyI cyF cyM cyJ ao mo sC sM H) (hS : va_S (fun q => s.heap.size ≤ q) s.heap H locs) (hl : lv_has ls 7 [(0, .ref b), (1, .ref (la 8 0)), (2, .ref (la 9 0)), (3, .ref ao), (4, .int x4)]) (back : lawBack p l e s m below meth c D la cyI cyF cyM cyJ ao mo b t x4 Sim) :
    lawW p l e s m below meth c b H locs (102 + t) (17282 + 6 * t) (F0 m 646 ls []) := by
  obtain ⟨S, hr, hlk, hlt, hX, hbl, hL, hmo, hxC, hxM, hTS, hJ, hVC, hVM, haC, haM, hao0, hdis, hOps⟩ := hF
  have hx := S.1
  have hb := S.2.1
  have hbA : ¬ (fun q => s.heap.size ≤ q) b := Nat.not_le.mpr hbl
  have hO := hOps mo t sC sM hmo ht hSim
  have v1 : vp_in (x4 + 1) L := by rw [ex4]; exact lw_sum hL hi (k := 1) (by decide)
  have v2 : vp_in (x4 + 2) L := by rw [ex4]; exact lw_sum hL hi (k := 2) (by decide)
  have v3 : vp_in (x4 + 3) L := by rw [ex4]; exact lw_sum hL hi (k := 3) (by decide)
  have v4 : vp_in (x4 + 4) L := by rw [ex4]; exact lw_sum hL hi (k := 4) (by decide)
  obtain ⟨hPC, hPM, x0, ho⟩ := hH
  have cM : ∀ H1 : Heap, (∀ q : Nat, q < H.size → ¬ xA (VC mo) la q → H1[q]? = H[q]?) → HW D VM la (EMf cyI la) sM H1 := fun H1 hk => hPM.kept (fun c i hV => hk _ (hPM c i hV).lt (fun z => by obtain ⟨c', i', h1, h2⟩ := z; exact hdis c' i' c i h1 hV h2))
  obtain ⟨r, sC', sM', hfC, hfM, hSim'⟩ := hO.2.2.2.2.2.2.2.2.2.2.2.2.2.1 (xs (x4 + 1).toNatClampNeg)
  refine lv_aload_n hx hb dL_law_646 rfl (lv_at hl 1 rfl) ?_
  refine lv_aload_n hx hb dL_law_647 rfl (lv_at hl 0 rfl) ?_
  refine lv_iload hx hb dL_law_648 (lv_at hl 4 rfl) ?_
  refine lv_iconst (v := 1) hx hb dL_law_650 (by decide) ?_
  refine lv_iadd hx hb dL_law_651 ?_
  refine va_sld hx hb hX hbl hbA hS v1 dL_law_652 ?_
  refine L_V S hxC hVC (TX8_drop l hfC) hPC hS rfl KX8_drop ml_L_92 ⟨rfl, rfl⟩ ⟨by decide, by decide⟩ (x_recv (E := fun c i => (ECf cyI cyF cyM mo la) (sC.1 c i) sC.2 c i) (c0 := 8) (i0 := 0) hxC.2.1 hPC rfl (ci := 8) rfl rfl) rfl hl.1 (Nat.le_of_ble_eq_true rfl) ⟨by show 102 + t + 0 ≤ 603072; omega, by show 17282 + 6 * t + 0 ≤ 7218911; omega⟩ dL_law_653 (fun H1 locs1 hPC hS hk => ?_)
  have hPM := cM H1 hk
  have ho : oAt cyJ ao x0 H1 := by
    show H1[ao]? = _
    rw [hk ao (Array.getElem?_eq_some_iff.mp ho).1 haC]
    exact ho
  refine lv_aload_n hx hb dL_law_656 rfl (lv_at hl 2 rfl) ?_
  refine lv_aload_n hx hb dL_law_657 rfl (lv_at hl 0 rfl) ?_
  refine lv_iload hx hb dL_law_658 (lv_at hl 4 rfl) ?_
  refine lv_iconst (v := 1) hx hb dL_law_660 (by decide) ?_
  refine lv_iadd hx hb dL_law_661 ?_
  refine va_sld hx hb hX hbl hbA hS v1 dL_law_662 ?_
  refine L_V S hxM hVM (TX9_drop l hfM) hPM hS rfl KX9_drop ml_L_95 ⟨rfl, rfl⟩ ⟨by decide, by decide⟩ (x_recv (E := fun c i => (EMf cyI la) (sM.1 c i) sM.2 c i) (c0 := 9) (i0 := 0) hxM.2.1 hPM rfl (ci := 9) rfl rfl) rfl hl.1 (Nat.le_of_ble_eq_true rfl) ⟨by show 102 + t + 0 ≤ 603072; omega, by show 17282 + 6 * t + 0 ≤ 7218911; omega⟩ dL_law_663 (fun H2 locs2 hPM hS hk => ?_)
  have hPC := hPC.kept (fun c i hV => hk _ (hPC c i hV).lt (fun z => by obtain ⟨c', i', h1, h2⟩ := z; exact hdis c i c' i' hV h1 h2.symm))
  have ho : oAt cyJ ao x0 H2 := by
    show H2[ao]? = _
    rw [hk ao (Array.getElem?_eq_some_iff.mp ho).1 haM]
    exact ho
  refine lv_icmp_eq (tgt := 696) hx hb dL_law_666 (by decide) (fun c1 => ?_) (fun c1 => absurd rfl c1)
  refine W.widen (k := 102 + (t + 1)) (n := 17282 + 6 * (t + 1)) (by omega) (by omega) ?_
  exact back _ _ _ _ _ hSim' ⟨hPC, hPM, x0, ho⟩ hS hl
set_option maxHeartbeats 4000000 in
set_option maxRecDepth 100000 in
theorem lw_case_count {p : Program} {l : Launch} {e : Env} {s : State} {m : MethodId} {below : List Frame} {meth : Method} {c : Code} {D : va_G} {la : Nat → Nat → Nat} {cyI cyF cyM cyJ : ClassId} {t0 sa sb ao mo N b L : Nat} {xs : Nat → Int32} {Sim : Nat → Nat → xSt → xSt → Prop} (hF : lawFix p l s m meth c D la cyI cyF cyM cyJ t0 sa sb ao mo N b L xs Sim) {t : Nat} {x4 : Int32} (ht : t < 512) (hi : 1 + 5 * t + 5 ≤ L) (ex4 : x4 = nI (1 + 5 * t)) {sC sM : xSt} (hSim : Sim mo t sC sM) {H : Heap} {locs : List Loc} {ls : Array Slot} (hH : lawHp D la cyI cyF cyM cyJ ao mo sC sM H) (hS : va_S (fun q => s.heap.size ≤ q) s.heap H locs) (hl : lv_has ls 7 [(0, .ref b), (1, .ref (la 8 0)), (2, .ref (la 9 0)), (3, .ref ao), (4, .int x4)]) (back : lawBack p l e s m below meth c D la cyI cyF cyM cyJ ao mo b t x4 Sim) :
    lawW p l e s m below meth c b H locs (102 + t) (17282 + 6 * t) (F0 m 671 ls []) := by
  obtain ⟨S, hr, hlk, hlt, hX, hbl, hL, hmo, hxC, hxM, hTS, hJ, hVC, hVM, haC, haM, hao0, hdis, hOps⟩ := hF
  have hx := S.1
  have hb := S.2.1
  have hbA : ¬ (fun q => s.heap.size ≤ q) b := Nat.not_le.mpr hbl
  have hO := hOps mo t sC sM hmo ht hSim
  have v1 : vp_in (x4 + 1) L := by rw [ex4]; exact lw_sum hL hi (k := 1) (by decide)
  have v2 : vp_in (x4 + 2) L := by rw [ex4]; exact lw_sum hL hi (k := 2) (by decide)
  have v3 : vp_in (x4 + 3) L := by rw [ex4]; exact lw_sum hL hi (k := 3) (by decide)
  have v4 : vp_in (x4 + 4) L := by rw [ex4]; exact lw_sum hL hi (k := 4) (by decide)
  obtain ⟨hPC, hPM, x0, ho⟩ := hH
  have cM : ∀ H1 : Heap, (∀ q : Nat, q < H.size → ¬ xA (VC mo) la q → H1[q]? = H[q]?) → HW D VM la (EMf cyI la) sM H1 := fun H1 hk => hPM.kept (fun c i hV => hk _ (hPM c i hV).lt (fun z => by obtain ⟨c', i', h1, h2⟩ := z; exact hdis c' i' c i h1 hV h2))
  obtain ⟨r, sC', sM', hfC, hfM, hSim'⟩ := hO.2.2.2.2.2.2.2.2.2.2.2.2.2.2 (xs (x4 + 1).toNatClampNeg)
  refine lv_aload_n hx hb dL_law_671 rfl (lv_at hl 1 rfl) ?_
  refine lv_aload_n hx hb dL_law_672 rfl (lv_at hl 0 rfl) ?_
  refine lv_iload hx hb dL_law_673 (lv_at hl 4 rfl) ?_
  refine lv_iconst (v := 1) hx hb dL_law_675 (by decide) ?_
  refine lv_iadd hx hb dL_law_676 ?_
  refine va_sld hx hb hX hbl hbA hS v1 dL_law_677 ?_
  refine L_V S hxC hVC (TX8_count l hfC) hPC hS rfl KX8_count ml_L_96 ⟨rfl, rfl⟩ ⟨by decide, by decide⟩ (x_recv (E := fun c i => (ECf cyI cyF cyM mo la) (sC.1 c i) sC.2 c i) (c0 := 8) (i0 := 0) hxC.2.1 hPC rfl (ci := 8) rfl rfl) rfl hl.1 (Nat.le_of_ble_eq_true rfl) ⟨by show 102 + t + 0 ≤ 603072; omega, by show 17282 + 6 * t + 0 ≤ 7218911; omega⟩ dL_law_678 (fun H1 locs1 hPC hS hk => ?_)
  have hPM := cM H1 hk
  have ho : oAt cyJ ao x0 H1 := by
    show H1[ao]? = _
    rw [hk ao (Array.getElem?_eq_some_iff.mp ho).1 haC]
    exact ho
  refine lv_aload_n hx hb dL_law_681 rfl (lv_at hl 2 rfl) ?_
  refine lv_aload_n hx hb dL_law_682 rfl (lv_at hl 0 rfl) ?_
  refine lv_iload hx hb dL_law_683 (lv_at hl 4 rfl) ?_
  refine lv_iconst (v := 1) hx hb dL_law_685 (by decide) ?_
  refine lv_iadd hx hb dL_law_686 ?_
  refine va_sld hx hb hX hbl hbA hS v1 dL_law_687 ?_
  refine L_V S hxM hVM (TX9_count l hfM) hPM hS rfl KX9_count ml_L_99 ⟨rfl, rfl⟩ ⟨by decide, by decide⟩ (x_recv (E := fun c i => (EMf cyI la) (sM.1 c i) sM.2 c i) (c0 := 9) (i0 := 0) hxM.2.1 hPM rfl (ci := 9) rfl rfl) rfl hl.1 (Nat.le_of_ble_eq_true rfl) ⟨by show 102 + t + 0 ≤ 603072; omega, by show 17282 + 6 * t + 0 ≤ 7218911; omega⟩ dL_law_688 (fun H2 locs2 hPM hS hk => ?_)
  have hPC := hPC.kept (fun c i hV => hk _ (hPC c i hV).lt (fun z => by obtain ⟨c', i', h1, h2⟩ := z; exact hdis c i c' i' hV h1 h2.symm))
  have ho : oAt cyJ ao x0 H2 := by
    show H2[ao]? = _
    rw [hk ao (Array.getElem?_eq_some_iff.mp ho).1 haM]
    exact ho
  refine lv_icmp_eq (tgt := 696) hx hb dL_law_691 (by decide) (fun c1 => ?_) (fun c1 => absurd rfl c1)
  refine W.widen (k := 102 + (t + 1)) (n := 17282 + 6 * (t + 1)) (by omega) (by omega) ?_
  exact back _ _ _ _ _ hSim' ⟨hPC, hPM, x0, ho⟩ hS hl
