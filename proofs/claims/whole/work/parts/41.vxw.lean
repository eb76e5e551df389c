/-! the words of the three throws -/
abbrev xAI : String := "java/lang/ArrayIndexOutOfBoundsException"
abbrev xNs : List String := ["java/lang/IndexOutOfBoundsException", "java/lang/RuntimeException", "java/lang/Exception"]
def xBadW : List Cond := [.declares (Bundle.initS "java/lang/IndexOutOfBoundsException"), .declares (Bundle.initS "java/lang/RuntimeException"), .declares (Bundle.initS "java/lang/Exception"), .declares (Bundle.initS "java/lang/Throwable"), .castable xAI xAI]
set_option maxRecDepth 100000 in
theorem at_tbl : (vx_atS RX8 67 xAI xNs).all (fun w => decide (w ∈ lw_tbl)) = true := by decide +kernel
set_option maxRecDepth 100000 in
theorem at_bad : (vx_atS RX8 67 xAI xNs).all (fun w => goodWord w || decide (w ∈ xBadW)) = true := by decide +kernel
set_option maxRecDepth 100000 in
theorem at_ot : (Cond.classLink RX8 63 xAI :: Cond.initialized xAI :: vx_atS RX8 67 xAI xNs).all vx_ot = true := by decide +kernel
set_option maxRecDepth 100000 in
theorem bad_tbl : xBadW.all (fun w => decide (w ∈ lw_tbl)) = true := by decide +kernel
def xThr (U : State) : Prop := ∀ w ∈ xBadW, va_Nw w U
theorem bad_on : ∀ w ∈ xBadW, w.onTables = true := fun w h => List.all_eq_true.mp (by decide +kernel : xBadW.all (fun w => w.onTables) = true) w h
theorem xThr.moved {s U : State} (h : xThr s) (hW : s.WarmedH U.vm) : xThr U := by
  intro w hw
  have hs := h w hw
  unfold xBadW at hw
  simp only [List.mem_cons, List.not_mem_nil, or_false] at hw
  rcases hw with rfl | rfl | rfl | rfl | rfl
  · exact va_Nw.warmD hW hs
  · exact va_Nw.warmD hW hs
  · exact va_Nw.warmD hW hs
  · exact va_Nw.warmD hW hs
  · exact va_tabs rfl (rfl : (s.setVm U.vm).vm = U.vm) (by rw [Cond.castable_setVm hW.alike]; exact hs)
theorem xThr.same {s U : State} (h : xThr s) (hv : s.vm = U.vm) : xThr U := fun w hw => va_Nw.same (bad_on w hw) hv (h w hw)
theorem xThr.at {s : State} {args : Array Value} (h : xThr s) (hA : ∀ w ∈ xALL, w.before args s = true) : ∀ w ∈ vx_atS RX8 67 xAI xNs, w.before args s = true := by
  intro w hw
  have h1 := List.all_eq_true.mp at_bad w hw
  by_cases g : goodWord w = true
  · exact hA w (List.mem_filter.mpr ⟨of_decide_eq_true (List.all_eq_true.mp at_tbl w hw), g⟩)
  · have h2 : w ∈ xBadW := by
      simp only [Bool.or_eq_true, decide_eq_true_eq] at h1
      exact h1.resolve_left g
    exact va_Nw.use (bad_on w h2) (h w h2)
