/-! Runner(memory, shelf, globals, counts) -/
abbrev rm_X6_init : Room := { frames := 2, cells := 29, slots := 492, locals := 32 }
def iRl (cyI cyF : ClassId) (V : Nat → Nat → Prop) (la : Nat → Nat → Nat) (E : xEn) (i : Nat) (V' : Nat → Nat → Prop) (la' : Nat → Nat → Nat) (E' : xEn) : Prop :=
  (∀ c k, V' c k ↔ V c k ∨ ((c = 2 ∨ c = 21) ∧ k < i)) ∧ (∀ c k, V c k → la' c k = la c k) ∧ (∀ c k, V c k → ¬ (c = 23 ∧ k = 0) → E' c k = E c k) ∧
  (∃ f : Nat → Option Nat, E' 23 0 = .inl (cyF, 12, .inr (.inr (.inr (.inr f)))) ∧ ∀ k, k < i → f k = some (la' 2 k)) ∧
  ∀ k, k < i → E' 2 k = .inr (2, [.ref (la' 21 k), .int 0, .int 0, .int 0, .null, .int 0, .int 0, .int 0, .int 0]) ∧ E' 21 k = .inl (cyI, 8, .inl (fun _ => 0))
set_option maxHeartbeats 4000000 in
set_option maxRecDepth 100000 in
theorem BX6_init {p : Program} {l : Launch} {e : Env} {s : State} {m : MethodId} {args : Array Value} {below : List Frame} {meth : Method} {c : Code} {D : va_G} {cyI cyF cyM : ClassId} {sz0 a0 v1 v2 v3 v4 : Nat} {V : Nat → Nat → Prop} {la : Nat → Nat → Nat} {E : xEn} {fs : List Value} {post : (Nat → Nat → Prop) → (Nat → Nat → Nat) → xEn → Prop}
    (X : iCx D cyI cyF cyM p m meth c cX6_init 6 s args RX6) (hV6 : V 6 0) (ha0 : la 6 0 = a0) (hV23 : V 23 0) (hE6 : E 6 0 = .inr (6, fs)) (hfs : fs[6]? = some (.ref (la 23 0))) (h2 : ∀ i, ¬ V 2 i) (h21 : ∀ i, ¬ V 21 i) (hpost : ∀ V' la' E', iRl cyI cyF V la E 12 V' la' E' → post V' la' E') :
    ∀ (n i : Nat), i ≤ 12 → 12 - i < n → ∀ x5 : Int32, x5 = nI i → ∀ (V' : Nat → Nat → Prop) (la' : Nat → Nat → Nat) (E' : xEn), iRl cyI cyF V la E i V' la' E' → ∀ (H : Heap) (locs : List Loc), xNew D sz0 V' la' E' H → va_S (fun q => sz0 ≤ q) s.heap H locs → ∀ ls : Array Slot, lv_has ls 6 [(0, .ref a0), (1, .ref v1), (2, .ref v2), (3, .ref v3), (4, .ref v4), (5, .int x5)] →
      W p l e rm_X6_init s m args below meth c H locs (5 + 2 * i) (288 + 17 * i) (MQ below (iQc D sz0 post) args s rm_X6_init.cells rm_X6_init.slots (fun q => sz0 ≤ q)) (F0 m 80 ls []) := by
  have hx := X.1.1
  have hb := X.1.2.1
  intro n
  induction n with
  | zero => intro i _ h; omega
  | succ n ih =>
    intro i hi hd x5 e5 V' la' E' hI H locs hN hS ls hl
    obtain ⟨i1, i2, i3, ⟨f, i5, i6⟩, i7⟩ := id hI
    refine lv_iload hx hb dX6_init_80 (lv_at hl 5 rfl) ?_
    refine lv_bipush (v := 12) hx hb dX6_init_82 (by decide) ?_
    refine lv_icmp_ge (tgt := 107) hx hb dX6_init_84 (by decide) (fun c1 => ?_) (fun c1 => ?_)
    · have hii : i = 12 := by
        rcases Nat.lt_or_ge i 12 with q | q
        · exact absurd c1 (by rw [e5]; exact nI_ge q (by decide))
        · omega
      subst hii
      exact i_ret X hN hS (hpost _ _ _ hI) (by decide) (by decide) dX6_init_107
    · have hlt : i < 12 := by
        rcases Nat.lt_or_ge i 12 with q | q
        · exact q
        · exact absurd (by rw [e5]; exact nI_le q (by omega)) c1
      have hV6' : V' 6 0 := (i1 6 0).mpr (Or.inl hV6)
      have hV23' : V' 23 0 := (i1 23 0).mpr (Or.inl hV23)
      refine lv_aload_n hx hb dX6_init_87 rfl (lv_at hl 0 rfl) ?_
      refine i_get X hN (c0 := 6) (i0 := 0) hV6' ((i2 6 0 hV6).trans ha0) ((i3 6 0 hV6 (by decide)).trans hE6) rfl la_X6 6 (by decide) fl_X6_24 hfs dX6_init_88 ?_
      refine lv_iload hx hb dX6_init_91 (lv_at hl 5 rfl) ?_
      have hn3 : ¬ V' 2 i := fun z => by
        rcases (i1 2 i).mp z with z | z
        · exact h2 i z
        · omega
      refine i_new X hN hS 2 i hn3 (ci := 2) rfl la_X1 tyX1 tyX1_ok cl_X6_22 it_X1 in_X1 [.null, .int 0, .int 0, .int 0, .null, .int 0, .int 0, .int 0, .int 0] (fun j hj => by rcases (show j = 0 ∨ j = 1 ∨ j = 2 ∨ j = 3 ∨ j = 4 ∨ j = 5 ∨ j = 6 ∨ j = 7 ∨ j = 8 by omega) with rfl | rfl | rfl | rfl | rfl | rfl | rfl | rfl | rfl <;> rfl) (by show 5 + 2 * i + 1 ≤ 29; omega) (by show 288 + 17 * i + 9 ≤ 492; omega) dX6_init_93 (fun a H ea hN hS => ?_)
      refine lv_dup hx hb dX6_init_96 rfl ?_
      have e33 : ((2 : Nat) = 2 ∧ i = i) := ⟨rfl, rfl⟩
      have hn22 : ¬ xVa V' 2 i 21 i := fun z => by
        rcases z with z | z
        · rcases (i1 21 i).mp z with z | z
          · exact h21 i z
          · omega
        · exact absurd z.1 (by decide)
      refine i_callN X (TX1_init l i a (Or.inr ⟨rfl, rfl⟩) (by unfold xLa; rw [if_pos e33]) (by unfold xU; rw [if_pos e33]) hn22) hN hS rfl KX1_init X.2.2.1.2.2.1 ⟨by decide, by decide⟩ rfl hl.1 (Nat.le_of_ble_eq_true rfl) ⟨by show 5 + 2 * i + 1 + 1 ≤ 29; omega, by show 288 + 17 * i + 9 + 8 ≤ 492; omega⟩ dX6_init_97 (fun V2 la2 E2 H locs hN hp hS => ?_)
      obtain ⟨b, rfl, rfl, rfl⟩ := hp
      have hn1 : ∀ c k, V' c k → ¬ (c = 2 ∧ k = i) := fun c k h z => hn3 (by rw [← z.1, ← z.2]; exact h)
      have hn2 : ∀ c k, V' c k → ¬ (c = 21 ∧ k = i) := fun c k h z => hn22 (Or.inl (by rw [← z.1, ← z.2]; exact h))
      have d1 : ¬ ((23 : Nat) = 2 ∧ (0 : Nat) = i) := fun z => absurd z.1 (by decide)
      have d2 : ¬ ((23 : Nat) = 21 ∧ (0 : Nat) = i) := fun z => absurd z.1 (by decide)
      have d3 : ¬ ((2 : Nat) = 21 ∧ i = i) := fun z => absurd z.1 (by decide)
      have hla : ∀ c k, V' c k → xLa (xLa la' 2 i a) 21 i b c k = la' c k := fun c k h => by unfold xLa; rw [if_neg (hn2 c k h), if_neg (hn1 c k h)]
      have hla3 : xLa (xLa la' 2 i a) 21 i b 2 i = a := by unfold xLa; rw [if_neg d3, if_pos e33]
      have hla22 : xLa (xLa la' 2 i a) 21 i b 21 i = b := by unfold xLa; rw [if_pos ⟨rfl, rfl⟩]
      refine i_aast X hN hS 1 2 (c0 := 23) (i0 := 0) (c1 := 2) (i1 := i) (r := (RX1, TX1, 9)) (Or.inl (Or.inl hV23')) ((hla 23 0 hV23').trans (i2 23 0 hV23)) (Or.inl (Or.inr e33)) hla3 (f := f) (n := 12) (by unfold xU; rw [if_neg d1, if_neg d2, if_neg d1]; exact i5) rfl (by unfold xU; rw [if_pos e33]) rfl (by rw [e5]; exact vp_in_nI (by omega) (by omega)) dX6_init_100 (fun H locs hN hS => ?_)
      obtain ⟨x6, ex⟩ : ∃ y : Int32, y = x5 + 1 := ⟨_, rfl⟩
      refine lv_iinc (v := x6) (lv' := [(5, .int x6), (0, .ref a0), (1, .ref v1), (2, .ref v2), (3, .ref v3), (4, .ref v4)]) hx hb dX6_init_101 hl (k := 5) rfl (by rw [ex]; rfl) (by decide) rfl (fun ls hl => ?_)
      refine lv_goto (tgt := 80) hx hb dX6_init_104 (by decide) ?_
      refine W.widen (k := 5 + 2 * (i + 1)) (n := 288 + 17 * (i + 1)) (by show 5 + 2 * i + 1 + 1 ≤ _; omega) (by show 288 + 17 * i + 9 + 8 ≤ _; omega) ?_
      refine ih (i + 1) (by omega) (by omega) x6 (by rw [ex, e5]; exact nI_1 i) _ _ _ ?_ _ _ hN hS _ (lv_sub hl [1, 2, 3, 4, 5, 0] rfl)
      have hcl : (x5).toNatClampNeg = i := by rw [e5]; exact nI_clamp (by omega)
      refine ⟨fun c k => ?_, fun c k h => ?_, fun c k h hne => ?_, ⟨_, by unfold xU; rw [if_pos ⟨rfl, rfl⟩], fun k hk => ?_⟩, fun k hk => ?_⟩
      · unfold xVa
        constructor
        · rintro ((h | h) | h)
          · rcases (i1 c k).mp h with h | h
            · exact Or.inl h
            · exact Or.inr ⟨h.1, by omega⟩
          · exact Or.inr ⟨Or.inl h.1, by omega⟩
          · exact Or.inr ⟨Or.inr h.1, by omega⟩
        · rintro (h | ⟨h, hk⟩)
          · exact Or.inl (Or.inl ((i1 c k).mpr (Or.inl h)))
          · rcases Nat.lt_or_ge k i with q | q
            · exact Or.inl (Or.inl ((i1 c k).mpr (Or.inr ⟨h, q⟩)))
            · have hki : k = i := by omega
              rcases h with h | h
              · exact Or.inl (Or.inr ⟨h, hki⟩)
              · exact Or.inr ⟨h, hki⟩
      · have h' : V' c k := (i1 c k).mpr (Or.inl h)
        rw [hla c k h']
        exact i2 c k h
      · have h' : V' c k := (i1 c k).mpr (Or.inl h)
        unfold xU
        rw [if_neg hne, if_neg (hn1 c k h'), if_neg (hn2 c k h'), if_neg (hn1 c k h')]
        exact i3 c k h hne
      · unfold va_up
        rw [hcl]
        by_cases hki : k = i
        · rw [if_pos hki, hki, hla3]
        · rw [if_neg hki]
          have h' : V' 2 k := (i1 2 k).mpr (Or.inr ⟨Or.inl rfl, by omega⟩)
          rw [hla 2 k h']
          exact i6 k (by omega)
      · by_cases hki : k = i
        · subst hki
          rw [hla22]
          unfold xU
          exact ⟨by rw [if_neg (fun z => absurd z.1 (by decide)), if_pos ⟨rfl, rfl⟩], by rw [if_neg (fun z => absurd z.1 (by decide)), if_neg (fun z => absurd z.1 (by decide)), if_pos ⟨rfl, rfl⟩]⟩
        · have h3' : V' 2 k := (i1 2 k).mpr (Or.inr ⟨Or.inl rfl, by omega⟩)
          have h22' : V' 21 k := (i1 21 k).mpr (Or.inr ⟨Or.inr rfl, by omega⟩)
          rw [hla 21 k h22']
          unfold xU
          have q := i7 k (by omega)
          refine ⟨?_, ?_⟩
          · rw [if_neg (fun z => absurd z.1 (by decide)), if_neg (hn1 2 k h3'), if_neg (hn2 2 k h3'), if_neg (hn1 2 k h3')]
            exact q.1
          · rw [if_neg (fun z => absurd z.1 (by decide)), if_neg (hn1 21 k h22'), if_neg (hn2 21 k h22'), if_neg (hn1 21 k h22')]
            exact q.2
def iRn (cyI cyF : ClassId) (v1 v2 v3 v4 : Nat) (V : Nat → Nat → Prop) (la : Nat → Nat → Nat) (E : xEn) (V' : Nat → Nat → Prop) (la' : Nat → Nat → Nat) (E' : xEn) : Prop :=
  (∀ c k, V' c k ↔ V c k ∨ (c = 5 ∧ k = 0) ∨ (c = 20 ∧ k = 4) ∨ (c = 23 ∧ k = 0) ∨ (c = 20 ∧ k = 5) ∨ (c = 20 ∧ k = 6) ∨ ((c = 2 ∨ c = 21) ∧ k < 12)) ∧ (∀ c k, V c k → la' c k = la c k) ∧ (∀ c k, V c k → ¬ (c = 6 ∧ k = 0) → E' c k = E c k) ∧
  E' 6 0 = .inr (6, [.ref (la' 5 0), .ref (la' 20 4), .ref v1, .ref v2, .ref v3, .ref v4, .ref (la' 23 0), .ref (la' 20 5), .ref (la' 20 6), .int 0, .int 0, .int 0, .ref (la' 20 6), .int 0, .int 0, .int 0]) ∧
  E' 5 0 = .inr (5, [.int 0, .int 0, .int (-1), .int (-1), .int 0]) ∧ E' 20 4 = .inl (cyI, 256, .inl (fun _ => 0)) ∧ E' 20 5 = .inl (cyI, 4, .inl (fun _ => 0)) ∧ E' 20 6 = .inl (cyI, 11, .inl (fun _ => 0)) ∧
  (∃ f : Nat → Option Nat, E' 23 0 = .inl (cyF, 12, .inr (.inr (.inr (.inr f)))) ∧ ∀ k, k < 12 → f k = some (la' 2 k)) ∧
  ∀ k, k < 12 → E' 2 k = .inr (2, [.ref (la' 21 k), .int 0, .int 0, .int 0, .null, .int 0, .int 0, .int 0, .int 0]) ∧ E' 21 k = .inl (cyI, 8, .inl (fun _ => 0))
set_option maxHeartbeats 4000000 in
set_option maxRecDepth 100000 in
theorem TX6_init (l : Launch) {D : va_G} {cyI cyF cyM : ClassId} {sz0 : Nat} {V : Nat → Nat → Prop} {la : Nat → Nat → Nat} {E : xEn} (a0 v1 v2 v3 v4 : Nat) (hV6 : V 6 0) (ha0 : la 6 0 = a0) (hE : E 6 0 = .inr (6, [.null, .null, .null, .null, .null, .null, .null, .null, .null, .int 0, .int 0, .int 0, .null, .int 0, .int 0, .int 0])) (h5 : ¬ V 5 0) (h204 : ¬ V 20 4) (h205 : ¬ V 20 5) (h206 : ¬ V 20 6) (h23 : ¬ V 23 0) (h2 : ∀ i, ¬ V 2 i) (h21 : ∀ i, ¬ V 21 i) :
    MetI D cyI cyF cyM sz0 l yX6_init (Cond.code yX6_init cX6_init 6 none :: xALL) rm_X6_init [.ref a0, .ref v1, .ref v2, .ref v3, .ref v4] V la E (iRn cyI cyF v1 v2 v3 v4 V la E) := by
  refine MetI.intro (own := RX6) (by decide) rfl (Nat.le_of_ble_eq_true rfl) rfl ?_
  intro p e s m below meth c X hN ls hl
  have hx := X.1.1
  have hb := X.1.2.1
  have hS : va_S (fun q => sz0 ≤ q) s.heap s.heap [] := va_S.rf
  replace hl : lv_has ls 6 [(0, .ref a0), (1, .ref v1), (2, .ref v2), (3, .ref v3), (4, .ref v4)] := hl
  refine lv_aload_n hx hb dX6_init_0 rfl (lv_at hl 0 rfl) ?_
  refine i_obj X mo_X6_3 hl.1 (Nat.le_of_ble_eq_true rfl) (by decide) dX6_init_1 ?_
  refine lv_aload_n hx hb dX6_init_4 rfl (lv_at hl 0 rfl) ?_
  refine i_new X hN hS 5 0 h5 (ci := 5) rfl la_X4 tyX4 tyX4_ok cl_X6_9 it_X4 in_X4 [.int 0, .int 0, .int 0, .int 0, .int 0] (fun j hj => by rcases (show j = 0 ∨ j = 1 ∨ j = 2 ∨ j = 3 ∨ j = 4 by omega) with rfl | rfl | rfl | rfl | rfl <;> rfl) (by decide) (by decide) dX6_init_5 (fun a5 H ea hN hS => ?_)
  refine lv_dup hx hb dX6_init_8 rfl ?_
  refine i_callN X (TX4_init l a5 (Or.inr ⟨rfl, rfl⟩) rfl rfl) hN hS rfl KX4_init X.2.2.1.2.1 ⟨by decide, by decide⟩ rfl hl.1 (Nat.le_of_ble_eq_true rfl) ⟨by decide, by decide⟩ dX6_init_9 (fun V2 la2 E2 H locs hN hp hS => ?_)
  obtain ⟨rfl, rfl, rfl⟩ := hp
  refine i_put X hN hS (c0 := 6) (i0 := 0) (Or.inl hV6) ha0 hE rfl la_X6 tyX6 tyX6_ok nmX6 0 (by decide) fl_X6_12 rfl (ty := .object "MadeCalls$Outcome") (by decide +kernel) rfl rfl (by decide) dX6_init_12 (fun H locs hN hS => ?_)
  refine lv_aload_n hx hb dX6_init_15 rfl (lv_at hl 0 rfl) ?_
  refine lv_sipush (v := 256) hx hb dX6_init_16 (by decide) ?_
  refine i_newi X hN hS 20 4 (by simp [xVa, h204]) 256 (by decide) (by decide) (by decide) (by decide) (by decide) dX6_init_19 (fun a204 H ea hN hS => ?_)
  refine i_put X hN hS (c0 := 6) (i0 := 0) (Or.inl (Or.inl hV6)) ha0 rfl rfl la_X6 tyX6 tyX6_ok nmX6 1 (by decide) fl_X6_18 rfl (ty := .array .int) (by decide +kernel) rfl rfl (Nat.le_of_ble_eq_true rfl) dX6_init_21 (fun H locs hN hS => ?_)
  refine lv_aload_n hx hb dX6_init_24 rfl (lv_at hl 0 rfl) ?_
  refine lv_bipush (v := 12) hx hb dX6_init_25 (by decide) ?_
  refine i_newr X hN hS 23 0 (by simp [xVa, h23]) 1 rfl X.2.2.1.2.2.2.2 cl_X6_22 12 (by decide) (by decide) (by decide) (by decide) (by decide) dX6_init_27 (fun a23 H ea hN hS => ?_)
  refine i_put X hN hS (c0 := 6) (i0 := 0) (Or.inl (Or.inl (Or.inl hV6))) ha0 rfl rfl la_X6 tyX6 tyX6_ok nmX6 6 (by decide) fl_X6_24 rfl (ty := .array (.object "MadeCalls$Frame")) (by decide +kernel) rfl rfl (Nat.le_of_ble_eq_true rfl) dX6_init_30 (fun H locs hN hS => ?_)
  refine lv_aload_n hx hb dX6_init_33 rfl (lv_at hl 0 rfl) ?_
  refine lv_iconst (v := 4) hx hb dX6_init_34 (by decide) ?_
  refine i_newi X hN hS 20 5 (by simp [xVa, h205]) 4 (by decide) (by decide) (by decide) (by decide) (by decide) dX6_init_35 (fun a205 H ea hN hS => ?_)
  refine i_put X hN hS (c0 := 6) (i0 := 0) (Or.inl (Or.inl (Or.inl (Or.inl hV6)))) ha0 rfl rfl la_X6 tyX6 tyX6_ok nmX6 7 (by decide) fl_X6_28 rfl (ty := .array .int) (by decide +kernel) rfl rfl (Nat.le_of_ble_eq_true rfl) dX6_init_37 (fun H locs hN hS => ?_)
  refine lv_aload_n hx hb dX6_init_40 rfl (lv_at hl 0 rfl) ?_
  refine lv_bipush (v := 11) hx hb dX6_init_41 (by decide) ?_
  refine i_newi X hN hS 20 6 (by simp [xVa, h206]) 11 (by decide) (by decide) (by decide) (by decide) (by decide) dX6_init_43 (fun a206 H ea hN hS => ?_)
  have hV6' := (Or.inl (Or.inl (Or.inl (Or.inl (Or.inl hV6)))) : xVa (xVa (xVa (xVa (xVa V 5 0) 20 4) 23 0) 20 5) 20 6 6 0)
  refine i_put X hN hS (c0 := 6) (i0 := 0) hV6' ha0 rfl rfl la_X6 tyX6 tyX6_ok nmX6 8 (by decide) fl_X6_33 rfl (ty := .array .int) (by decide +kernel) rfl rfl (Nat.le_of_ble_eq_true rfl) dX6_init_45 (fun H locs hN hS => ?_)
  refine lv_aload_n hx hb dX6_init_48 rfl (lv_at hl 0 rfl) ?_
  refine lv_aload_n hx hb dX6_init_49 rfl (lv_at hl 0 rfl) ?_
  refine i_get X hN (c0 := 6) (i0 := 0) hV6' ha0 rfl rfl la_X6 8 (by decide) fl_X6_33 (v := .ref a206) rfl dX6_init_50 ?_
  refine i_put X hN hS (c0 := 6) (i0 := 0) hV6' ha0 rfl rfl la_X6 tyX6 tyX6_ok nmX6 12 (by decide) fl_X6_36 rfl (ty := .array .int) (by decide +kernel) rfl rfl (Nat.le_of_ble_eq_true rfl) dX6_init_53 (fun H locs hN hS => ?_)
  refine lv_aload_n hx hb dX6_init_56 rfl (lv_at hl 0 rfl) ?_
  refine lv_aload_n hx hb dX6_init_57 rfl (lv_at hl 1 rfl) ?_
  refine i_put X hN hS (c0 := 6) (i0 := 0) hV6' ha0 rfl rfl la_X6 tyX6 tyX6_ok nmX6 2 (by decide) fl_X6_39 rfl (ty := .object "MadeCalls$Memory") (by decide +kernel) rfl rfl (Nat.le_of_ble_eq_true rfl) dX6_init_58 (fun H locs hN hS => ?_)
  refine lv_aload_n hx hb dX6_init_61 rfl (lv_at hl 0 rfl) ?_
  refine lv_aload_n hx hb dX6_init_62 rfl (lv_at hl 2 rfl) ?_
  refine i_put X hN hS (c0 := 6) (i0 := 0) hV6' ha0 rfl rfl la_X6 tyX6 tyX6_ok nmX6 3 (by decide) fl_X6_43 rfl (ty := .object "MadeCalls$Shelf") (by decide +kernel) rfl rfl (Nat.le_of_ble_eq_true rfl) dX6_init_63 (fun H locs hN hS => ?_)
  refine lv_aload_n hx hb dX6_init_66 rfl (lv_at hl 0 rfl) ?_
  refine lv_aload_n hx hb dX6_init_67 rfl (lv_at hl 3 rfl) ?_
  refine i_put X hN hS (c0 := 6) (i0 := 0) hV6' ha0 rfl rfl la_X6 tyX6 tyX6_ok nmX6 4 (by decide) fl_X6_47 rfl (ty := .array .int) (by decide +kernel) rfl rfl (Nat.le_of_ble_eq_true rfl) dX6_init_68 (fun H locs hN hS => ?_)
  refine lv_aload_n hx hb dX6_init_71 rfl (lv_at hl 0 rfl) ?_
  refine lv_aload hx hb dX6_init_72 (lv_at hl 4 rfl) ?_
  refine i_put X hN hS (c0 := 6) (i0 := 0) hV6' ha0 rfl rfl la_X6 tyX6 tyX6_ok nmX6 5 (by decide) fl_X6_50 rfl (ty := .array .int) (by decide +kernel) rfl rfl (Nat.le_of_ble_eq_true rfl) dX6_init_74 (fun H locs hN hS => ?_)
  refine lv_iconst (v := 0) hx hb dX6_init_77 (by decide) ?_
  refine lv_istore (lv' := [(5, .int 0), (0, .ref a0), (1, .ref v1), (2, .ref v2), (3, .ref v3), (4, .ref v4)]) hx hb dX6_init_78 hl (by decide) rfl (fun ls hl => ?_)
  refine W.widen (k := 5 + 2 * 0) (n := 288 + 17 * 0) (by decide) (by decide) ?_
  have m5 : xVa (xVa (xVa (xVa (xVa V 5 0) 20 4) 23 0) 20 5) 20 6 5 0 := by simp [xVa]
  have m204 : xVa (xVa (xVa (xVa (xVa V 5 0) 20 4) 23 0) 20 5) 20 6 20 4 := by simp [xVa]
  have m23 : xVa (xVa (xVa (xVa (xVa V 5 0) 20 4) 23 0) 20 5) 20 6 23 0 := by simp [xVa]
  have m205 : xVa (xVa (xVa (xVa (xVa V 5 0) 20 4) 23 0) 20 5) 20 6 20 5 := by simp [xVa]
  have m206 : xVa (xVa (xVa (xVa (xVa V 5 0) 20 4) 23 0) 20 5) 20 6 20 6 := by simp [xVa]
  refine BX6_init (V := xVa (xVa (xVa (xVa (xVa V 5 0) 20 4) 23 0) 20 5) 20 6) (la := xLa (xLa (xLa (xLa (xLa la 5 0 a5) 20 4 a204) 23 0 a23) 20 5 a205) 20 6 a206) X hV6' ha0 m23 rfl rfl (fun i => by simp [xVa, h2]) (fun i => by simp [xVa, h21]) ?_ 14 0 (by decide) (by decide) 0 nI_0.symm (xVa (xVa (xVa (xVa (xVa V 5 0) 20 4) 23 0) 20 5) 20 6) (xLa (xLa (xLa (xLa (xLa la 5 0 a5) 20 4 a204) 23 0 a23) 20 5 a205) 20 6 a206) _ ⟨fun c k => ⟨Or.inl, fun z => z.elim id (fun z => absurd z.2 (Nat.not_lt_zero k))⟩, fun c k h => rfl, fun c k h _ => rfl, ⟨_, rfl, fun k hk => absurd hk (Nat.not_lt_zero k)⟩, fun k hk => absurd hk (Nat.not_lt_zero k)⟩ _ _ hN hS _ (lv_sub hl [1, 2, 3, 4, 5, 0] rfl)
  intro V' la' E' hI
  obtain ⟨i1, i2, i3, i4, i5⟩ := hI
  refine ⟨fun c k => ?_, fun c k h => ?_, fun c k h hne => ?_, ?_, ?_, ?_, ?_, ?_, i4, i5⟩
  · rw [i1]
    unfold xVa
    constructor
    · rintro ((((((h | h) | h) | h) | h) | h) | h) <;> simp [h]
    · rintro (h | h | h | h | h | h | h) <;> simp [h]
  · have h' : xVa (xVa (xVa (xVa (xVa V 5 0) 20 4) 23 0) 20 5) 20 6 c k := Or.inl (Or.inl (Or.inl (Or.inl (Or.inl h))))
    rw [i2 c k h']
    unfold xLa
    rw [if_neg (fun z => h206 (by rw [← z.1, ← z.2]; exact h)), if_neg (fun z => h205 (by rw [← z.1, ← z.2]; exact h)), if_neg (fun z => h23 (by rw [← z.1, ← z.2]; exact h)), if_neg (fun z => h204 (by rw [← z.1, ← z.2]; exact h)), if_neg (fun z => h5 (by rw [← z.1, ← z.2]; exact h))]
  · have h' : xVa (xVa (xVa (xVa (xVa V 5 0) 20 4) 23 0) 20 5) 20 6 c k := Or.inl (Or.inl (Or.inl (Or.inl (Or.inl h))))
    have n206 : ¬ (c = 20 ∧ k = 6) := fun z => h206 (by rw [← z.1, ← z.2]; exact h)
    have n205 : ¬ (c = 20 ∧ k = 5) := fun z => h205 (by rw [← z.1, ← z.2]; exact h)
    have n23 : ¬ (c = 23 ∧ k = 0) := fun z => h23 (by rw [← z.1, ← z.2]; exact h)
    have n204 : ¬ (c = 20 ∧ k = 4) := fun z => h204 (by rw [← z.1, ← z.2]; exact h)
    have n5 : ¬ (c = 5 ∧ k = 0) := fun z => h5 (by rw [← z.1, ← z.2]; exact h)
    rw [i3 c k h' n23]
    simp only [xU, if_neg hne, if_neg n206, if_neg n205, if_neg n23, if_neg n204, if_neg n5]
  · rw [i3 6 0 hV6' (by decide), i2 5 0 m5, i2 20 4 m204, i2 23 0 m23, i2 20 5 m205, i2 20 6 m206]
    rfl
  · rw [i3 5 0 m5 (by decide)]
    rfl
  · rw [i3 20 4 m204 (by decide)]
    rfl
  · rw [i3 20 5 m205 (by decide)]
    rfl
  · rw [i3 20 6 m206 (by decide)]
    rfl
