/-! Shelf(most, counts): `all` and its Mades -/
abbrev rm_X7_init : Room := { frames := 2, cells := 43, slots := 14007, locals := 32 }
def iSh (cyI cyM : ClassId) (mo : Nat) (mv : Int32) (ac : Nat) (V : Nat → Nat → Prop) (la : Nat → Nat → Nat) (E : xEn) (i : Nat) (V' : Nat → Nat → Prop) (la' : Nat → Nat → Nat) (E' : xEn) : Prop :=
  (∀ c k, V' c k ↔ V c k ∨ (c = 24 ∧ k = 0) ∨ ((c = 3 ∨ c = 22) ∧ k < i)) ∧ (∀ c k, V c k → la' c k = la c k) ∧ (∀ c k, V c k → ¬ (c = 7 ∧ k = 0) → E' c k = E c k) ∧
  E' 7 0 = .inr (7, [.int mv, .ref (la' 24 0), .ref ac, .int 0]) ∧ (∃ f : Nat → Option Nat, E' 24 0 = .inl (cyM, mo + 1, .inr (.inr (.inr (.inr f)))) ∧ ∀ k, k < i → f k = some (la' 3 k)) ∧
  ∀ k, k < i → E' 3 k = .inr (3, [.ref (la' 22 k), .int 0, .int 0, .int 0, .int 0, .int 0]) ∧ E' 22 k = .inl (cyI, 660, .inl (fun _ => 0))
set_option maxHeartbeats 4000000 in
set_option maxRecDepth 100000 in
theorem BX7_init {p : Program} {l : Launch} {e : Env} {s : State} {m : MethodId} {args : Array Value} {below : List Frame} {meth : Method} {c : Code} {D : va_G} {cyI cyF cyM : ClassId} {sz0 mo a0 ac : Nat} {mv : Int32} {V : Nat → Nat → Prop} {la : Nat → Nat → Nat} {E : xEn}
    (X : iCx D cyI cyF cyM p m meth c cX7_init 4 s args RX7) (hmo : mo ≤ 20) (hmv : mv = nI mo) (hV7 : V 7 0) (ha0 : la 7 0 = a0) (h24 : ¬ V 24 0) (h3 : ∀ i, ¬ V 3 i) (h22 : ∀ i, ¬ V 22 i) :
    ∀ (n i : Nat), i ≤ mo + 1 → mo + 1 - i < n → ∀ x3 : Int32, x3 = nI i → ∀ (V' : Nat → Nat → Prop) (la' : Nat → Nat → Nat) (E' : xEn), iSh cyI cyM mo mv ac V la E i V' la' E' → ∀ (H : Heap) (locs : List Loc), xNew D sz0 V' la' E' H → va_S (fun q => sz0 ≤ q) s.heap H locs → ∀ ls : Array Slot, lv_has ls 4 [(0, .ref a0), (1, .int mv), (2, .ref ac), (3, .int x3)] →
      W p l e rm_X7_init s m args below meth c H locs (1 + 2 * i) (mo + 1 + 666 * i) (MQ below (iQc D sz0 (iSh cyI cyM mo mv ac V la E (mo + 1))) args s rm_X7_init.cells rm_X7_init.slots (fun q => sz0 ≤ q)) (F0 m 26 ls []) := by
  have hx := X.1.1
  have hb := X.1.2.1
  intro n
  induction n with
  | zero => intro i _ h; omega
  | succ n ih =>
    intro i hi hd x3 e3 V' la' E' hI H locs hN hS ls hl
    obtain ⟨i1, i2, i3, i4, ⟨f, i5, i6⟩, i7⟩ := id hI
    refine lv_iload_n hx hb dX7_init_26 rfl (lv_at hl 3 rfl) ?_
    refine lv_iload_n hx hb dX7_init_27 rfl (lv_at hl 1 rfl) ?_
    refine lv_icmp_gt (tgt := 50) hx hb dX7_init_28 (by decide) (fun c1 => ?_) (fun c1 => ?_)
    · have hii : i = mo + 1 := by
        rcases Nat.lt_or_ge mo i with q | q
        · omega
        · exact absurd c1 (by rw [e3, hmv]; exact nI_nlt q (by omega))
      subst hii
      exact i_ret X hN hS hI (by show 1 + 2 * (mo + 1) ≤ 43; omega) (by show mo + 1 + 666 * (mo + 1) ≤ 14007; omega) dX7_init_50
    · have hlt : i ≤ mo := by
        rcases Nat.lt_or_ge mo i with q | q
        · exact absurd (by rw [e3, hmv]; exact nI_lt q (by omega)) c1
        · exact q
      have hV7' : V' 7 0 := (i1 7 0).mpr (Or.inl hV7)
      refine lv_aload_n hx hb dX7_init_31 rfl (lv_at hl 0 rfl) ?_
      refine i_get X hN (c0 := 7) (i0 := 0) hV7' ((i2 7 0 hV7).trans ha0) i4 rfl la_X7 1 (by decide) fl_X7_21 rfl dX7_init_32 ?_
      refine lv_iload_n hx hb dX7_init_35 rfl (lv_at hl 3 rfl) ?_
      have hn3 : ¬ V' 3 i := fun z => by
        rcases (i1 3 i).mp z with z | z | z
        · exact h3 i z
        · omega
        · omega
      refine i_new X hN hS 3 i hn3 (ci := 3) rfl la_X2 tyX2 tyX2_ok cl_X7_19 it_X2 in_X2 [.null, .int 0, .int 0, .int 0, .int 0, .int 0] (fun j hj => by rcases (show j = 0 ∨ j = 1 ∨ j = 2 ∨ j = 3 ∨ j = 4 ∨ j = 5 by omega) with rfl | rfl | rfl | rfl | rfl | rfl <;> rfl) (by show 1 + 2 * i + 1 ≤ 43; omega) (by show mo + 1 + 666 * i + 6 ≤ 14007; omega) dX7_init_36 (fun a H ea hN hS => ?_)
      refine lv_dup hx hb dX7_init_39 rfl ?_
      have e33 : ((3 : Nat) = 3 ∧ i = i) := ⟨rfl, rfl⟩
      have hn22 : ¬ xVa V' 3 i 22 i := fun z => by
        rcases z with z | z
        · rcases (i1 22 i).mp z with z | z | z
          · exact h22 i z
          · omega
          · omega
        · exact absurd z.1 (by decide)
      refine i_callN X (TX2_init l i a (Or.inr ⟨rfl, rfl⟩) (by unfold xLa; rw [if_pos e33]) (by unfold xU; rw [if_pos e33]) hn22) hN hS rfl KX2_init X.2.2.1.1 ⟨by decide, by decide⟩ rfl hl.1 (Nat.le_of_ble_eq_true rfl) ⟨by show 1 + 2 * i + 1 + 1 ≤ 43; omega, by show mo + 1 + 666 * i + 6 + 660 ≤ 14007; omega⟩ dX7_init_40 (fun V2 la2 E2 H locs hN hp hS => ?_)
      obtain ⟨b, rfl, rfl, rfl⟩ := hp
      have hn1 : ∀ c k, V' c k → ¬ (c = 3 ∧ k = i) := fun c k h z => hn3 (by rw [← z.1, ← z.2]; exact h)
      have hn2 : ∀ c k, V' c k → ¬ (c = 22 ∧ k = i) := fun c k h z => hn22 (Or.inl (by rw [← z.1, ← z.2]; exact h))
      have hV24 : V' 24 0 := (i1 24 0).mpr (Or.inr (Or.inl ⟨rfl, rfl⟩))
      have d1 : ¬ ((24 : Nat) = 3 ∧ (0 : Nat) = i) := fun z => absurd z.1 (by decide)
      have d2 : ¬ ((24 : Nat) = 22 ∧ (0 : Nat) = i) := fun z => absurd z.1 (by decide)
      have d3 : ¬ ((3 : Nat) = 22 ∧ i = i) := fun z => absurd z.1 (by decide)
      have hla : ∀ c k, V' c k → xLa (xLa la' 3 i a) 22 i b c k = la' c k := fun c k h => by unfold xLa; rw [if_neg (hn2 c k h), if_neg (hn1 c k h)]
      have hla3 : xLa (xLa la' 3 i a) 22 i b 3 i = a := by unfold xLa; rw [if_neg d3, if_pos e33]
      have hla22 : xLa (xLa la' 3 i a) 22 i b 22 i = b := by unfold xLa; rw [if_pos ⟨rfl, rfl⟩]
      refine i_aast X hN hS 2 3 (c0 := 24) (i0 := 0) (c1 := 3) (i1 := i) (r := (RX2, TX2, 6)) (Or.inl (Or.inl hV24)) (hla 24 0 hV24) (Or.inl (Or.inr e33)) hla3 (f := f) (n := mo + 1) (by unfold xU; rw [if_neg d1, if_neg d2, if_neg d1]; exact i5) rfl (by unfold xU; rw [if_pos e33]) rfl (by rw [e3]; exact vp_in_nI (by omega) (by omega)) dX7_init_43 (fun H locs hN hS => ?_)
      obtain ⟨x4, ex⟩ : ∃ y : Int32, y = x3 + 1 := ⟨_, rfl⟩
      refine lv_iinc (v := x4) (lv' := [(3, .int x4), (0, .ref a0), (1, .int mv), (2, .ref ac)]) hx hb dX7_init_44 hl (k := 3) rfl (by rw [ex]; rfl) (by decide) rfl (fun ls hl => ?_)
      refine lv_goto (tgt := 26) hx hb dX7_init_47 (by decide) ?_
      refine W.widen (k := 1 + 2 * (i + 1)) (n := mo + 1 + 666 * (i + 1)) (by show 1 + 2 * i + 1 + 1 ≤ _; omega) (by show mo + 1 + 666 * i + 6 + 660 ≤ _; omega) ?_
      refine ih (i + 1) (by omega) (by omega) x4 (by rw [ex, e3]; exact nI_1 i) _ _ _ ?_ _ _ hN hS _ (lv_sub hl [1, 2, 3, 0] rfl)
      have hcl : (x3).toNatClampNeg = i := by rw [e3]; exact nI_clamp (by omega)
      refine ⟨fun c k => ?_, fun c k h => ?_, fun c k h hne => ?_, ?_, ⟨_, by unfold xU; rw [if_pos ⟨rfl, rfl⟩], fun k hk => ?_⟩, fun k hk => ?_⟩
      · unfold xVa
        constructor
        · rintro ((h | h) | h)
          · rcases (i1 c k).mp h with h | h | h
            · exact Or.inl h
            · exact Or.inr (Or.inl h)
            · exact Or.inr (Or.inr ⟨h.1, by omega⟩)
          · exact Or.inr (Or.inr ⟨Or.inl h.1, by omega⟩)
          · exact Or.inr (Or.inr ⟨Or.inr h.1, by omega⟩)
        · rintro (h | h | ⟨h, hk⟩)
          · exact Or.inl (Or.inl ((i1 c k).mpr (Or.inl h)))
          · exact Or.inl (Or.inl ((i1 c k).mpr (Or.inr (Or.inl h))))
          · rcases Nat.lt_or_ge k i with q | q
            · exact Or.inl (Or.inl ((i1 c k).mpr (Or.inr (Or.inr ⟨h, q⟩))))
            · have hki : k = i := by omega
              rcases h with h | h
              · exact Or.inl (Or.inr ⟨h, hki⟩)
              · exact Or.inr ⟨h, hki⟩
      · have h' : V' c k := (i1 c k).mpr (Or.inl h)
        rw [hla c k h']
        exact i2 c k h
      · have h' : V' c k := (i1 c k).mpr (Or.inl h)
        unfold xU
        rw [if_neg (fun z => h24 (by rw [← z.1, ← z.2]; exact h)), if_neg (hn1 c k h'), if_neg (hn2 c k h'), if_neg (hn1 c k h')]
        exact i3 c k h hne
      · rw [hla 24 0 hV24]
        unfold xU
        rw [if_neg (fun z => absurd z.1 (by decide)), if_neg (hn1 7 0 hV7'), if_neg (hn2 7 0 hV7'), if_neg (hn1 7 0 hV7')]
        exact i4
      · unfold va_up
        rw [hcl]
        by_cases hki : k = i
        · rw [if_pos hki, hki, hla3]
        · rw [if_neg hki]
          have h' : V' 3 k := (i1 3 k).mpr (Or.inr (Or.inr ⟨Or.inl rfl, by omega⟩))
          rw [hla 3 k h']
          exact i6 k (by omega)
      · by_cases hki : k = i
        · subst hki
          rw [hla22]
          unfold xU
          exact ⟨by rw [if_neg (fun z => absurd z.1 (by decide)), if_pos ⟨rfl, rfl⟩], by rw [if_neg (fun z => absurd z.1 (by decide)), if_neg (fun z => absurd z.1 (by decide)), if_pos ⟨rfl, rfl⟩]⟩
        · have h3' : V' 3 k := (i1 3 k).mpr (Or.inr (Or.inr ⟨Or.inl rfl, by omega⟩))
          have h22' : V' 22 k := (i1 22 k).mpr (Or.inr (Or.inr ⟨Or.inr rfl, by omega⟩))
          rw [hla 22 k h22']
          unfold xU
          have q := i7 k (by omega)
          refine ⟨?_, ?_⟩
          · rw [if_neg (fun z => absurd z.1 (by decide)), if_neg (hn1 3 k h3'), if_neg (hn2 3 k h3'), if_neg (hn1 3 k h3')]
            exact q.1
          · rw [if_neg (fun z => absurd z.1 (by decide)), if_neg (hn1 22 k h22'), if_neg (hn2 22 k h22'), if_neg (hn1 22 k h22')]
            exact q.2
set_option maxHeartbeats 4000000 in
set_option maxRecDepth 100000 in
theorem TX7_init (l : Launch) {D : va_G} {cyI cyF cyM : ClassId} {sz0 mo : Nat} {mv : Int32} {V : Nat → Nat → Prop} {la : Nat → Nat → Nat} {E : xEn} (a0 ac : Nat) (hmo : mo ≤ 20) (hmv : mv = nI mo) (hV7 : V 7 0) (ha0 : la 7 0 = a0) (hE : E 7 0 = .inr (7, [.int 0, .null, .null, .int 0])) (h24 : ¬ V 24 0) (h3 : ∀ i, ¬ V 3 i) (h22 : ∀ i, ¬ V 22 i) :
    MetI D cyI cyF cyM sz0 l yX7_init (Cond.code yX7_init cX7_init 4 none :: xALL) rm_X7_init [.ref a0, .int mv, .ref ac] V la E (iSh cyI cyM mo mv ac V la E (mo + 1)) := by
  refine MetI.intro (own := RX7) (by decide) rfl (Nat.le_of_ble_eq_true rfl) rfl ?_
  intro p e s m below meth c X hN ls hl
  have hx := X.1.1
  have hb := X.1.2.1
  have hS : va_S (fun q => sz0 ≤ q) s.heap s.heap [] := va_S.rf
  replace hl : lv_has ls 4 [(0, .ref a0), (1, .int mv), (2, .ref ac)] := hl
  refine lv_aload_n hx hb dX7_init_0 rfl (lv_at hl 0 rfl) ?_
  refine i_obj X mo_X7_3 hl.1 (Nat.le_of_ble_eq_true rfl) (by decide) dX7_init_1 ?_
  refine lv_aload_n hx hb dX7_init_4 rfl (lv_at hl 0 rfl) ?_
  refine lv_iload_n hx hb dX7_init_5 rfl (lv_at hl 1 rfl) ?_
  refine i_put X hN hS (c0 := 7) (i0 := 0) hV7 ha0 hE rfl la_X7 tyX7 tyX7_ok nmX7 0 (by decide) fl_X7_9 rfl (ty := .int) (by decide +kernel) rfl rfl (by decide) dX7_init_6 (fun H locs hN hS => ?_)
  refine lv_aload_n hx hb dX7_init_9 rfl (lv_at hl 0 rfl) ?_
  refine lv_aload_n hx hb dX7_init_10 rfl (lv_at hl 2 rfl) ?_
  refine i_put X hN hS (c0 := 7) (i0 := 0) hV7 ha0 rfl rfl la_X7 tyX7 tyX7_ok nmX7 2 (by decide) fl_X7_15 rfl (ty := .array .int) (by decide +kernel) rfl rfl (Nat.le_of_ble_eq_true rfl) dX7_init_11 (fun H locs hN hS => ?_)
  refine lv_aload_n hx hb dX7_init_14 rfl (lv_at hl 0 rfl) ?_
  refine lv_iload_n hx hb dX7_init_15 rfl (lv_at hl 1 rfl) ?_
  refine lv_iconst (v := 1) hx hb dX7_init_16 (by decide) ?_
  refine lv_iadd hx hb dX7_init_17 ?_
  have hm1 : mv + 1 = nI (mo + 1) := by rw [hmv]; exact nI_1 mo
  refine i_newr X hN hS 24 0 h24 2 rfl X.2.2.1.2.2.2.1 cl_X7_19 (mo + 1) (by rw [hm1]; exact nI_pos (by omega)) (by rw [hm1]; exact nI_clamp (by omega)) (by omega) (by decide) (by show 0 + (mo + 1) ≤ 14007; omega) dX7_init_18 (fun a H ea hN hS => ?_)
  refine i_put X hN hS (c0 := 7) (i0 := 0) (Or.inl hV7) ha0 rfl rfl la_X7 tyX7 tyX7_ok nmX7 1 (by decide) fl_X7_21 rfl (ty := .array (.object "MadeCalls$Made")) (by decide +kernel) rfl rfl (Nat.le_of_ble_eq_true rfl) dX7_init_21 (fun H locs hN hS => ?_)
  refine lv_iconst (v := 0) hx hb dX7_init_24 (by decide) ?_
  refine lv_istore_n (lv' := [(3, .int 0), (0, .ref a0), (1, .int mv), (2, .ref ac)]) hx hb dX7_init_25 rfl hl (by decide) rfl (fun ls hl => ?_)
  refine W.widen (k := 1 + 2 * 0) (n := mo + 1 + 666 * 0) (by show 0 + 1 ≤ _; omega) (by show 0 + (mo + 1) ≤ _; omega) ?_
  refine BX7_init X hmo hmv hV7 ha0 h24 h3 h22 (mo + 3) 0 (by omega) (by omega) 0 nI_0.symm _ _ _ ?_ _ _ hN hS _ (lv_sub hl [1, 2, 3, 0] rfl)
  refine ⟨fun c k => ?_, fun c k h => ?_, fun c k h hne => ?_, ?_, ⟨_, rfl, fun k hk => absurd hk (Nat.not_lt_zero k)⟩, fun k hk => absurd hk (Nat.not_lt_zero k)⟩
  · unfold xVa
    constructor
    · rintro (h | h)
      · exact Or.inl h
      · exact Or.inr (Or.inl h)
    · rintro (h | h | h)
      · exact Or.inl h
      · exact Or.inr h
      · exact absurd h.2 (Nat.not_lt_zero k)
  · unfold xLa
    rw [if_neg (fun z => h24 (by rw [← z.1, ← z.2]; exact h))]
  · unfold xU
    rw [if_neg hne, if_neg (fun z => h24 (by rw [← z.1, ← z.2]; exact h)), if_neg hne, if_neg hne]
  · rfl
