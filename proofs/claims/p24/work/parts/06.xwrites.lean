set_option maxHeartbeats 4000000 in
set_option maxRecDepth 100000 in
theorem c_X0_addLife (l : Launch) (D : va_G) (h0 h1 h2 h3 h4 h5 h6 h7 h8 h9 : Nat) (cI cJ : ClassId) (d r lc bg w rm k pn : Nat) (fa e1 am dd rt b pd pt tp : Nat → Nat) (sz : Nat) (a9 : Nat) (hlc1 : lc ≤ 1) : Met l yX0_addLife wsX0_addLife { frames := 0, cells := 0, slots := 0, locals := 0 } (nk_Pw D (wX h0 h1 h2 h3 h4 h5 h6 h7 h8 h9 cI cJ d r lc bg w rm k pn fa e1 am dd rt b pd pt tp) (tX cI cJ) sz [.ref h0, .int (nI a9)]) (va_Qv (fun w1 => w1 = wX h0 h1 h2 h3 h4 h5 h6 h7 h8 h9 cI cJ d r (lc + 1) bg w rm k pn (va_up fa lc a9) (va_up e1 lc 0) am dd rt b pd pt tp) (fun w1 t => nk_At D (tX cI cJ) (va_A (wX h0 h1 h2 h3 h4 h5 h6 h7 h8 h9 cI cJ d r lc bg w rm k pn fa e1 am dd rt b pd pt tp) sz) w1 t) (va_A (wX h0 h1 h2 h3 h4 h5 h6 h7 h8 h9 cI cJ d r lc bg w rm k pn fa e1 am dd rt b pd pt tp) sz)) 0 0 (va_A (wX h0 h1 h2 h3 h4 h5 h6 h7 h8 h9 cI cJ d r lc bg w rm k pn fa e1 am dd rt b pd pt tp) sz) := by
  refine Met.ofW (cc := cX0_addLife) (maxL := 2) (ret := none) (by decide) rfl ?_
  intro p e s m args below meth c s₁ B hml hv
  obtain ⟨hargs, hsz, hP, hK, hD0⟩ := hv
  have hx := B.exec
  have hb := B.bytes
  have hr := B.returns
  have hts := atoms_spec (ws := wsX0_addLife) B.pre
  have hown : s.vm.findClass RX0 = some m.cls := findClass_of_methodNamed B.named
  have hlocks := B.notSynchronized
  subst hsz
  have hin : ∀ w ∈ wsX00, w ∈ wsX0_addLife := by decide +kernel
  have hD := hD0.self (sz := s.heap.size)
  generalize hAe : va_A (wX h0 h1 h2 h3 h4 h5 h6 h7 h8 h9 cI cJ d r lc bg w rm k pn fa e1 am dd rt b pd pt tp) s.heap.size = A at hD ⊢
  have hA : ∀ q : Nat, s.heap.size ≤ q → A q := fun q h => by rw [← hAe]; exact Or.inr h
  have hS : va_S A s.heap s.heap [] := va_S.rf
  have f120 := hts (.fieldLink RX0 120 "EquityRelease" "lifeCount" "I") (by decide +kernel)
  have f13 := hts (.fieldLink RX0 13 "EquityRelease" "firstAges" "[I") (by decide +kernel)
  have f17 := hts (.fieldLink RX0 17 "EquityRelease" "endDays" "[I") (by decide +kernel)
  have hl := lv_entry ([.ref h0, .int (nI a9)]) (n := 2) (Nat.le_of_ble_eq_true rfl)
  have hEe : entryFrame m args 2 = entryFrame m ([.ref h0, .int (nI a9)] : List Value).toArray 2 := by rw [hargs]
  rw [hEe, lg_entry_eq]
  generalize (lg_sl ([.ref h0, .int (nI a9)]) ++ List.replicate (2 - (lg_sl ([.ref h0, .int (nI a9)])).length) Slot.unset).toArray = ls at hl ⊢
  have hl : lv_has ls 2 [(0, .ref h0), (1, .int (nI a9))] := hl
  refine lv_aload_n hx hb dX0_addLife_0 rfl (lv_at hl 0 rfl) ?_
  refine va_get (D := D) (ci := 0) (v := .int (nI lc)) (C := RX0) (T := TX0) (N := 17) hx hb hts hin hown hK hP 0 rfl rfl 2 (by decide) f120 (fun _ h9 => h9) rfl dX0_addLife_1 ?_
  refine lv_iconst (v := nI 2) hx hb dX0_addLife_4 (by decide +kernel) ?_
  refine nk_icmp_ge (tgt := 38) hx hb (by omega) (by omega) dX0_addLife_5 (by decide) (fun c5 => ?_) (fun c5 => ?_)
  · exfalso; omega
  · refine lv_aload_n hx hb dX0_addLife_8 rfl (lv_at hl 0 rfl) ?_
    refine va_get (D := D) (ci := 0) (v := .ref h1) (C := RX0) (T := TX0) (N := 17) hx hb hts hin hown hK hP 0 rfl rfl 3 (by decide) f13 (fun _ h9 => h9) rfl dX0_addLife_9 ?_
    refine lv_aload_n hx hb dX0_addLife_12 rfl (lv_at hl 0 rfl) ?_
    refine va_get (D := D) (ci := 0) (v := .int (nI lc)) (C := RX0) (T := TX0) (N := 17) hx hb hts hin hown hK hP 0 rfl rfl 2 (by decide) f120 (fun _ h9 => h9) rfl dX0_addLife_13 ?_
    refine lv_iload_n hx hb dX0_addLife_16 rfl (lv_at hl 1 rfl) ?_
    refine nk_iast hx hb hK hP hD hS 1 0 rfl rfl (by omega) (by decide) dX0_addLife_17 (fun H locs hP hD hS => ?_)
    have hP : va_P D vwCl (wX h0 h1 h2 h3 h4 h5 h6 h7 h8 h9 cI cJ d r lc bg w rm k pn (va_up fa lc a9) e1 am dd rt b pd pt tp) H := hP
    have hD : va_D A (wX h0 h1 h2 h3 h4 h5 h6 h7 h8 h9 cI cJ d r lc bg w rm k pn (va_up fa lc a9) e1 am dd rt b pd pt tp) := hD
    refine lv_aload_n hx hb dX0_addLife_18 rfl (lv_at hl 0 rfl) ?_
    refine va_get (D := D) (ci := 0) (v := .ref h2) (C := RX0) (T := TX0) (N := 17) hx hb hts hin hown hK hP 0 rfl rfl 4 (by decide) f17 (fun _ h9 => h9) rfl dX0_addLife_19 ?_
    refine lv_aload_n hx hb dX0_addLife_22 rfl (lv_at hl 0 rfl) ?_
    refine va_get (D := D) (ci := 0) (v := .int (nI lc)) (C := RX0) (T := TX0) (N := 17) hx hb hts hin hown hK hP 0 rfl rfl 2 (by decide) f120 (fun _ h9 => h9) rfl dX0_addLife_23 ?_
    refine lv_iconst (v := -1) hx hb dX0_addLife_26 (by decide) ?_
    refine nk_east hx hb hK hP hD hS 2 0 rfl rfl nk_m1 (by omega) (by decide) dX0_addLife_27 (fun H locs hP hD hS => ?_)
    have hP : va_P D vwCl (wX h0 h1 h2 h3 h4 h5 h6 h7 h8 h9 cI cJ d r lc bg w rm k pn (va_up fa lc a9) (va_up e1 lc 0) am dd rt b pd pt tp) H := hP
    have hD : va_D A (wX h0 h1 h2 h3 h4 h5 h6 h7 h8 h9 cI cJ d r lc bg w rm k pn (va_up fa lc a9) (va_up e1 lc 0) am dd rt b pd pt tp) := hD
    refine lv_aload_n hx hb dX0_addLife_28 rfl (lv_at hl 0 rfl) ?_
    refine lv_dup hx hb dX0_addLife_29 rfl ?_
    refine va_get (D := D) (ci := 0) (v := .int (nI lc)) (C := RX0) (T := TX0) (N := 17) hx hb hts hin hown hK hP 0 rfl rfl 2 (by decide) f120 (fun _ h9 => h9) rfl dX0_addLife_30 ?_
    refine lv_iconst (v := nI 1) hx hb dX0_addLife_33 (by decide +kernel) ?_
    refine nk_iadd hx hb dX0_addLife_34 ?_
    refine va_put (D := D) (ci := 0) (v := .int (nI (lc + 1))) (ty := .int) (C := RX0) (T := TX0) (N := 17) hx hb hts hin tyX0 tyX0_ok nmX0 hown hK hP hD hS 0 rfl rfl 2 (by decide) f120 (fun _ h9 => h9) rfl (by decide +kernel) rfl rfl (Nat.le_of_ble_eq_true rfl) dX0_addLife_35 (fun H locs hP hD hS => ?_)
    have hP : va_P D vwCl (wX h0 h1 h2 h3 h4 h5 h6 h7 h8 h9 cI cJ d r (lc + 1) bg w rm k pn (va_up fa lc a9) (va_up e1 lc 0) am dd rt b pd pt tp) H := hP
    have hD : va_D A (wX h0 h1 h2 h3 h4 h5 h6 h7 h8 h9 cI cJ d r (lc + 1) bg w rm k pn (va_up fa lc a9) (va_up e1 lc 0) am dd rt b pd pt tp) := hD
    exact W.vret hx hb hr (fun t ht hW => ⟨⟨wX h0 h1 h2 h3 h4 h5 h6 h7 h8 h9 cI cJ d r (lc + 1) bg w rm k pn (va_up fa lc a9) (va_up e1 lc 0) am dd rt b pd pt tp, rfl, rfl, by rw [ht]; exact hP, va_K.moved hW.alike hK, hD⟩, hS.F ht⟩) hS.2.2 dX0_addLife_38
set_option maxHeartbeats 4000000 in
set_option maxRecDepth 100000 in
theorem c_X0_addDrawing (l : Launch) (D : va_G) (h0 h1 h2 h3 h4 h5 h6 h7 h8 h9 : Nat) (cI cJ : ClassId) (d r lc bg w rm k pn : Nat) (fa e1 am dd rt b pd pt tp : Nat → Nat) (sz : Nat) (a9 : Nat) (hk1 : k < 20) (ha9 : a9 ≤ rm) (hrm : rm ≤ 10000000) : Met l yX0_addDrawing wsX0_addDrawing { frames := 0, cells := 0, slots := 0, locals := 0 } (nk_Pw D (wX h0 h1 h2 h3 h4 h5 h6 h7 h8 h9 cI cJ d r lc bg w rm k pn fa e1 am dd rt b pd pt tp) (tX cI cJ) sz [.ref h0, .int (nI a9)]) (va_Qv (fun w1 => w1 = wX h0 h1 h2 h3 h4 h5 h6 h7 h8 h9 cI cJ d r lc bg w (rm - a9) (k + 1) pn fa e1 (va_up am k a9) (va_up dd k d) (va_up rt k r) (va_up b k (a9 * 10000)) pd pt tp) (fun w1 t => nk_At D (tX cI cJ) (va_A (wX h0 h1 h2 h3 h4 h5 h6 h7 h8 h9 cI cJ d r lc bg w rm k pn fa e1 am dd rt b pd pt tp) sz) w1 t) (va_A (wX h0 h1 h2 h3 h4 h5 h6 h7 h8 h9 cI cJ d r lc bg w rm k pn fa e1 am dd rt b pd pt tp) sz)) 0 0 (va_A (wX h0 h1 h2 h3 h4 h5 h6 h7 h8 h9 cI cJ d r lc bg w rm k pn fa e1 am dd rt b pd pt tp) sz) := by
  refine Met.ofW (cc := cX0_addDrawing) (maxL := 2) (ret := none) (by decide) rfl ?_
  intro p e s m args below meth c s₁ B hml hv
  obtain ⟨hargs, hsz, hP, hK, hD0⟩ := hv
  have hx := B.exec
  have hb := B.bytes
  have hr := B.returns
  have hts := atoms_spec (ws := wsX0_addDrawing) B.pre
  have hown : s.vm.findClass RX0 = some m.cls := findClass_of_methodNamed B.named
  have hlocks := B.notSynchronized
  subst hsz
  have hin : ∀ w ∈ wsX00, w ∈ wsX0_addDrawing := by decide +kernel
  have hD := hD0.self (sz := s.heap.size)
  generalize hAe : va_A (wX h0 h1 h2 h3 h4 h5 h6 h7 h8 h9 cI cJ d r lc bg w rm k pn fa e1 am dd rt b pd pt tp) s.heap.size = A at hD ⊢
  have hA : ∀ q : Nat, s.heap.size ≤ q → A q := fun q h => by rw [← hAe]; exact Or.inr h
  have hS : va_S A s.heap s.heap [] := va_S.rf
  have f89 := hts (.fieldLink RX0 89 "EquityRelease" "drawingCount" "I") (by decide +kernel)
  have f20 := hts (.fieldLink RX0 20 "EquityRelease" "drawnAmounts" "[I") (by decide +kernel)
  have f23 := hts (.fieldLink RX0 23 "EquityRelease" "drawnDays" "[I") (by decide +kernel)
  have f53 := hts (.fieldLink RX0 53 "EquityRelease" "today" "I") (by decide +kernel)
  have f26 := hts (.fieldLink RX0 26 "EquityRelease" "drawnRates" "[I") (by decide +kernel)
  have f9 := hts (.fieldLink RX0 9 "EquityRelease" "rateNow" "I") (by decide +kernel)
  have f29 := hts (.fieldLink RX0 29 "EquityRelease" "balances" "[J") (by decide +kernel)
  have k172 : (Cond.constantLong RX0 172 (lN 10000)).before args s = true := by
    rw [show (lN 10000 : Int64) = 10000 from by decide +kernel]
    exact hts (.constantLong RX0 172 (10000)) (by decide +kernel)
  have f80 := hts (.fieldLink RX0 80 "EquityRelease" "roomLeft" "I") (by decide +kernel)
  have hl := lv_entry ([.ref h0, .int (nI a9)]) (n := 2) (Nat.le_of_ble_eq_true rfl)
  have hEe : entryFrame m args 2 = entryFrame m ([.ref h0, .int (nI a9)] : List Value).toArray 2 := by rw [hargs]
  rw [hEe, lg_entry_eq]
  generalize (lg_sl ([.ref h0, .int (nI a9)]) ++ List.replicate (2 - (lg_sl ([.ref h0, .int (nI a9)])).length) Slot.unset).toArray = ls at hl ⊢
  have hl : lv_has ls 2 [(0, .ref h0), (1, .int (nI a9))] := hl
  refine lv_aload_n hx hb dX0_addDrawing_0 rfl (lv_at hl 0 rfl) ?_
  refine va_get (D := D) (ci := 0) (v := .int (nI k)) (C := RX0) (T := TX0) (N := 17) hx hb hts hin hown hK hP 0 rfl rfl 8 (by decide) f89 (fun _ h9 => h9) rfl dX0_addDrawing_1 ?_
  refine lv_bipush (v := nI 20) hx hb dX0_addDrawing_4 (by decide +kernel) ?_
  refine nk_icmp_ge (tgt := 80) hx hb (by omega) (by omega) dX0_addDrawing_6 (by decide) (fun c6 => ?_) (fun c6 => ?_)
  · exfalso; omega
  · refine lv_aload_n hx hb dX0_addDrawing_9 rfl (lv_at hl 0 rfl) ?_
    refine va_get (D := D) (ci := 0) (v := .ref h3) (C := RX0) (T := TX0) (N := 17) hx hb hts hin hown hK hP 0 rfl rfl 9 (by decide) f20 (fun _ h9 => h9) rfl dX0_addDrawing_10 ?_
    refine lv_aload_n hx hb dX0_addDrawing_13 rfl (lv_at hl 0 rfl) ?_
    refine va_get (D := D) (ci := 0) (v := .int (nI k)) (C := RX0) (T := TX0) (N := 17) hx hb hts hin hown hK hP 0 rfl rfl 8 (by decide) f89 (fun _ h9 => h9) rfl dX0_addDrawing_14 ?_
    refine lv_iload_n hx hb dX0_addDrawing_17 rfl (lv_at hl 1 rfl) ?_
    refine nk_iast hx hb hK hP hD hS 3 0 rfl rfl (by omega) (by decide) dX0_addDrawing_18 (fun H locs hP hD hS => ?_)
    have hP : va_P D vwCl (wX h0 h1 h2 h3 h4 h5 h6 h7 h8 h9 cI cJ d r lc bg w rm k pn fa e1 (va_up am k a9) dd rt b pd pt tp) H := hP
    have hD : va_D A (wX h0 h1 h2 h3 h4 h5 h6 h7 h8 h9 cI cJ d r lc bg w rm k pn fa e1 (va_up am k a9) dd rt b pd pt tp) := hD
    refine lv_aload_n hx hb dX0_addDrawing_19 rfl (lv_at hl 0 rfl) ?_
    refine va_get (D := D) (ci := 0) (v := .ref h4) (C := RX0) (T := TX0) (N := 17) hx hb hts hin hown hK hP 0 rfl rfl 10 (by decide) f23 (fun _ h9 => h9) rfl dX0_addDrawing_20 ?_
    refine lv_aload_n hx hb dX0_addDrawing_23 rfl (lv_at hl 0 rfl) ?_
    refine va_get (D := D) (ci := 0) (v := .int (nI k)) (C := RX0) (T := TX0) (N := 17) hx hb hts hin hown hK hP 0 rfl rfl 8 (by decide) f89 (fun _ h9 => h9) rfl dX0_addDrawing_24 ?_
    refine lv_aload_n hx hb dX0_addDrawing_27 rfl (lv_at hl 0 rfl) ?_
    refine va_get (D := D) (ci := 0) (v := .int (nI d)) (C := RX0) (T := TX0) (N := 17) hx hb hts hin hown hK hP 0 rfl rfl 0 (by decide) f53 (fun _ h9 => h9) rfl dX0_addDrawing_28 ?_
    refine nk_iast hx hb hK hP hD hS 4 0 rfl rfl (by omega) (by decide) dX0_addDrawing_31 (fun H locs hP hD hS => ?_)
    have hP : va_P D vwCl (wX h0 h1 h2 h3 h4 h5 h6 h7 h8 h9 cI cJ d r lc bg w rm k pn fa e1 (va_up am k a9) (va_up dd k d) rt b pd pt tp) H := hP
    have hD : va_D A (wX h0 h1 h2 h3 h4 h5 h6 h7 h8 h9 cI cJ d r lc bg w rm k pn fa e1 (va_up am k a9) (va_up dd k d) rt b pd pt tp) := hD
    refine lv_aload_n hx hb dX0_addDrawing_32 rfl (lv_at hl 0 rfl) ?_
    refine va_get (D := D) (ci := 0) (v := .ref h5) (C := RX0) (T := TX0) (N := 17) hx hb hts hin hown hK hP 0 rfl rfl 11 (by decide) f26 (fun _ h9 => h9) rfl dX0_addDrawing_33 ?_
    refine lv_aload_n hx hb dX0_addDrawing_36 rfl (lv_at hl 0 rfl) ?_
    refine va_get (D := D) (ci := 0) (v := .int (nI k)) (C := RX0) (T := TX0) (N := 17) hx hb hts hin hown hK hP 0 rfl rfl 8 (by decide) f89 (fun _ h9 => h9) rfl dX0_addDrawing_37 ?_
    refine lv_aload_n hx hb dX0_addDrawing_40 rfl (lv_at hl 0 rfl) ?_
    refine va_get (D := D) (ci := 0) (v := .int (nI r)) (C := RX0) (T := TX0) (N := 17) hx hb hts hin hown hK hP 0 rfl rfl 1 (by decide) f9 (fun _ h9 => h9) rfl dX0_addDrawing_41 ?_
    refine nk_iast hx hb hK hP hD hS 5 0 rfl rfl (by omega) (by decide) dX0_addDrawing_44 (fun H locs hP hD hS => ?_)
    have hP : va_P D vwCl (wX h0 h1 h2 h3 h4 h5 h6 h7 h8 h9 cI cJ d r lc bg w rm k pn fa e1 (va_up am k a9) (va_up dd k d) (va_up rt k r) b pd pt tp) H := hP
    have hD : va_D A (wX h0 h1 h2 h3 h4 h5 h6 h7 h8 h9 cI cJ d r lc bg w rm k pn fa e1 (va_up am k a9) (va_up dd k d) (va_up rt k r) b pd pt tp) := hD
    refine lv_aload_n hx hb dX0_addDrawing_45 rfl (lv_at hl 0 rfl) ?_
    refine va_get (D := D) (ci := 0) (v := .ref h6) (C := RX0) (T := TX0) (N := 17) hx hb hts hin hown hK hP 0 rfl rfl 12 (by decide) f29 (fun _ h9 => h9) rfl dX0_addDrawing_46 ?_
    refine lv_aload_n hx hb dX0_addDrawing_49 rfl (lv_at hl 0 rfl) ?_
    refine va_get (D := D) (ci := 0) (v := .int (nI k)) (C := RX0) (T := TX0) (N := 17) hx hb hts hin hown hK hP 0 rfl rfl 8 (by decide) f89 (fun _ h9 => h9) rfl dX0_addDrawing_50 ?_
    refine lv_iload_n hx hb dX0_addDrawing_53 rfl (lv_at hl 1 rfl) ?_
    refine nk_i2l hx hb (by omega) dX0_addDrawing_54 ?_
    refine lv_ldc2 (v := lN 10000) hx hb hown k172 dX0_addDrawing_55 ?_
    refine nk_lmul hx hb dX0_addDrawing_58 ?_
    refine nk_last hx hb hK hP hD hS 6 1 rfl rfl (by omega) (by decide) dX0_addDrawing_59 (fun H locs hP hD hS => ?_)
    have hP : va_P D vwCl (wX h0 h1 h2 h3 h4 h5 h6 h7 h8 h9 cI cJ d r lc bg w rm k pn fa e1 (va_up am k a9) (va_up dd k d) (va_up rt k r) (va_up b k (a9 * 10000)) pd pt tp) H := hP
    have hD : va_D A (wX h0 h1 h2 h3 h4 h5 h6 h7 h8 h9 cI cJ d r lc bg w rm k pn fa e1 (va_up am k a9) (va_up dd k d) (va_up rt k r) (va_up b k (a9 * 10000)) pd pt tp) := hD
    refine lv_aload_n hx hb dX0_addDrawing_60 rfl (lv_at hl 0 rfl) ?_
    refine lv_dup hx hb dX0_addDrawing_61 rfl ?_
    refine va_get (D := D) (ci := 0) (v := .int (nI k)) (C := RX0) (T := TX0) (N := 17) hx hb hts hin hown hK hP 0 rfl rfl 8 (by decide) f89 (fun _ h9 => h9) rfl dX0_addDrawing_62 ?_
    refine lv_iconst (v := nI 1) hx hb dX0_addDrawing_65 (by decide +kernel) ?_
    refine nk_iadd hx hb dX0_addDrawing_66 ?_
    refine va_put (D := D) (ci := 0) (v := .int (nI (k + 1))) (ty := .int) (C := RX0) (T := TX0) (N := 17) hx hb hts hin tyX0 tyX0_ok nmX0 hown hK hP hD hS 0 rfl rfl 8 (by decide) f89 (fun _ h9 => h9) rfl (by decide +kernel) rfl rfl (Nat.le_of_ble_eq_true rfl) dX0_addDrawing_67 (fun H locs hP hD hS => ?_)
    have hP : va_P D vwCl (wX h0 h1 h2 h3 h4 h5 h6 h7 h8 h9 cI cJ d r lc bg w rm (k + 1) pn fa e1 (va_up am k a9) (va_up dd k d) (va_up rt k r) (va_up b k (a9 * 10000)) pd pt tp) H := hP
    have hD : va_D A (wX h0 h1 h2 h3 h4 h5 h6 h7 h8 h9 cI cJ d r lc bg w rm (k + 1) pn fa e1 (va_up am k a9) (va_up dd k d) (va_up rt k r) (va_up b k (a9 * 10000)) pd pt tp) := hD
    refine lv_aload_n hx hb dX0_addDrawing_70 rfl (lv_at hl 0 rfl) ?_
    refine lv_dup hx hb dX0_addDrawing_71 rfl ?_
    refine va_get (D := D) (ci := 0) (v := .int (nI rm)) (C := RX0) (T := TX0) (N := 17) hx hb hts hin hown hK hP 0 rfl rfl 7 (by decide) f80 (fun _ h9 => h9) rfl dX0_addDrawing_72 ?_
    refine lv_iload_n hx hb dX0_addDrawing_75 rfl (lv_at hl 1 rfl) ?_
    refine nk_isub hx hb (by omega) dX0_addDrawing_76 ?_
    refine va_put (D := D) (ci := 0) (v := .int (nI (rm - a9))) (ty := .int) (C := RX0) (T := TX0) (N := 17) hx hb hts hin tyX0 tyX0_ok nmX0 hown hK hP hD hS 0 rfl rfl 7 (by decide) f80 (fun _ h9 => h9) rfl (by decide +kernel) rfl rfl (Nat.le_of_ble_eq_true rfl) dX0_addDrawing_77 (fun H locs hP hD hS => ?_)
    have hP : va_P D vwCl (wX h0 h1 h2 h3 h4 h5 h6 h7 h8 h9 cI cJ d r lc bg w (rm - a9) (k + 1) pn fa e1 (va_up am k a9) (va_up dd k d) (va_up rt k r) (va_up b k (a9 * 10000)) pd pt tp) H := hP
    have hD : va_D A (wX h0 h1 h2 h3 h4 h5 h6 h7 h8 h9 cI cJ d r lc bg w (rm - a9) (k + 1) pn fa e1 (va_up am k a9) (va_up dd k d) (va_up rt k r) (va_up b k (a9 * 10000)) pd pt tp) := hD
    exact W.vret hx hb hr (fun t ht hW => ⟨⟨wX h0 h1 h2 h3 h4 h5 h6 h7 h8 h9 cI cJ d r lc bg w (rm - a9) (k + 1) pn fa e1 (va_up am k a9) (va_up dd k d) (va_up rt k r) (va_up b k (a9 * 10000)) pd pt tp, rfl, rfl, by rw [ht]; exact hP, va_K.moved hW.alike hK, hD⟩, hS.F ht⟩) hS.2.2 dX0_addDrawing_80
set_option maxHeartbeats 4000000 in
set_option maxRecDepth 100000 in
theorem c_X0_takeBack (l : Launch) (D : va_G) (h0 h1 h2 h3 h4 h5 h6 h7 h8 h9 : Nat) (cI cJ : ClassId) (d r lc bg w rm k pn : Nat) (fa e1 am dd rt b pd pt tp : Nat → Nat) (sz : Nat) (a9 t9 : Nat) (hp40 : pn < 40) (hk : k ≤ 20) (ha9 : a9 < 400000000000000) (hb9 : ∀ j, j < k → b j < 4611686018427387904) : Met l yX0_takeBack wsX0_takeBack { frames := 1, cells := 0, slots := 0, locals := 24 } (nk_Pw D (wX h0 h1 h2 h3 h4 h5 h6 h7 h8 h9 cI cJ d r lc bg w rm k pn fa e1 am dd rt b pd pt tp) (tX cI cJ) sz [.ref h0, .long (lN a9), .int (nI t9)]) (va_Qv (fun w1 => w1 = wX h0 h1 h2 h3 h4 h5 h6 h7 h8 h9 cI cJ d r lc bg w rm k (pn + 1) fa e1 am dd rt (tkB b (a9 * 10000) k) (va_up pd pn d) (va_up pt pn t9) (tkT tp b (a9 * 10000) pn k)) (fun w1 t => nk_At D (tX cI cJ) (va_A (wX h0 h1 h2 h3 h4 h5 h6 h7 h8 h9 cI cJ d r lc bg w rm k pn fa e1 am dd rt b pd pt tp) sz) w1 t) (va_A (wX h0 h1 h2 h3 h4 h5 h6 h7 h8 h9 cI cJ d r lc bg w rm k pn fa e1 am dd rt b pd pt tp) sz)) 0 0 (va_A (wX h0 h1 h2 h3 h4 h5 h6 h7 h8 h9 cI cJ d r lc bg w rm k pn fa e1 am dd rt b pd pt tp) sz) := by
  refine Met.ofW (cc := cX0_takeBack) (maxL := 9) (ret := none) (by decide) rfl ?_
  intro p e s m args below meth c s₁ B hml hv
  obtain ⟨hargs, hsz, hP, hK, hD0⟩ := hv
  have hx := B.exec
  have hb := B.bytes
  have hr := B.returns
  have hts := atoms_spec (ws := wsX0_takeBack) B.pre
  have hown : s.vm.findClass RX0 = some m.cls := findClass_of_methodNamed B.named
  have hlocks := B.notSynchronized
  subst hsz
  have hin : ∀ w ∈ wsX00, w ∈ wsX0_takeBack := by decide +kernel
  have hD := hD0.self (sz := s.heap.size)
  generalize hAe : va_A (wX h0 h1 h2 h3 h4 h5 h6 h7 h8 h9 cI cJ d r lc bg w rm k pn fa e1 am dd rt b pd pt tp) s.heap.size = A at hD ⊢
  have hA : ∀ q : Nat, s.heap.size ≤ q → A q := fun q h => by rw [← hAe]; exact Or.inr h
  have hS : va_S A s.heap s.heap [] := va_S.rf
  have f98 := hts (.fieldLink RX0 98 "EquityRelease" "paymentCount" "I") (by decide +kernel)
  have k172 : (Cond.constantLong RX0 172 (lN 10000)).before args s = true := by
    rw [show (lN 10000 : Int64) = 10000 from by decide +kernel]
    exact hts (.constantLong RX0 172 (10000)) (by decide +kernel)
  have f89 := hts (.fieldLink RX0 89 "EquityRelease" "drawingCount" "I") (by decide +kernel)
  have f33 := hts (.fieldLink RX0 33 "EquityRelease" "paidDays" "[I") (by decide +kernel)
  have f53 := hts (.fieldLink RX0 53 "EquityRelease" "today" "I") (by decide +kernel)
  have f36 := hts (.fieldLink RX0 36 "EquityRelease" "paidByTenth" "[I") (by decide +kernel)
  have f29 := hts (.fieldLink RX0 29 "EquityRelease" "balances" "[J") (by decide +kernel)
  have f39 := hts (.fieldLink RX0 39 "EquityRelease" "takenParts" "[J") (by decide +kernel)
  have hl := lv_entry ([.ref h0, .long (lN a9), .int (nI t9)]) (n := 9) (Nat.le_of_ble_eq_true rfl)
  have hEe : entryFrame m args 9 = entryFrame m ([.ref h0, .long (lN a9), .int (nI t9)] : List Value).toArray 9 := by rw [hargs]
  rw [hEe, lg_entry_eq]
  generalize (lg_sl ([.ref h0, .long (lN a9), .int (nI t9)]) ++ List.replicate (9 - (lg_sl ([.ref h0, .long (lN a9), .int (nI t9)])).length) Slot.unset).toArray = ls at hl ⊢
  have hl : lv_has ls 9 [(0, .ref h0), (1, .long (lN a9)), (3, .int (nI t9))] := hl
  refine lv_aload_n hx hb dX0_takeBack_0 rfl (lv_at hl 0 rfl) ?_
  refine va_get (D := D) (ci := 0) (v := .int (nI pn)) (C := RX0) (T := TX0) (N := 17) hx hb hts hin hown hK hP 0 rfl rfl 13 (by decide) f98 (fun _ h9 => h9) rfl dX0_takeBack_1 ?_
  refine lv_bipush (v := nI 40) hx hb dX0_takeBack_4 (by decide +kernel) ?_
  refine nk_icmp_ge (tgt := 117) hx hb (by omega) (by omega) dX0_takeBack_6 (by decide) (fun c6 => ?_) (fun c6 => ?_)
  · exfalso; omega
  · refine lv_lload_n hx hb dX0_takeBack_9 rfl (lv_at hl 1 rfl) ?_
    refine lv_ldc2 (v := lN 10000) hx hb hown k172 dX0_takeBack_10 ?_
    refine nk_lmul hx hb dX0_takeBack_13 ?_
    refine lv_lstore (lv' := [(4, .long (lN (a9 * 10000))), (0, .ref h0), (1, .long (lN a9)), (3, .int (nI t9))]) hx hb dX0_takeBack_14 hl (by decide) rfl (fun ls hl => ?_)
    refine lv_iconst (v := nI 0) hx hb dX0_takeBack_16 (by decide +kernel) ?_
    refine lv_istore (lv' := [(6, .int (nI 0)), (4, .long (lN (a9 * 10000))), (0, .ref h0), (1, .long (lN a9)), (3, .int (nI t9))]) hx hb dX0_takeBack_17 hl (by decide) rfl (fun ls hl => ?_)
    have loop19 : ∀ (n : Nat) (i : Nat), (i ≤ k) → k + 1 ≤ i + n → ∀ (H : Heap) (locs : List Loc), va_P D vwCl (wX h0 h1 h2 h3 h4 h5 h6 h7 h8 h9 cI cJ d r lc bg w rm k pn fa e1 am dd rt (tkB b (a9 * 10000) i) pd pt (tkT tp b (a9 * 10000) pn i)) H → va_D A (wX h0 h1 h2 h3 h4 h5 h6 h7 h8 h9 cI cJ d r lc bg w rm k pn fa e1 am dd rt (tkB b (a9 * 10000) i) pd pt (tkT tp b (a9 * 10000) pn i)) → va_S A s.heap H locs → ∀ ls : Array Slot, lv_has ls 9 [(0, .ref h0), (1, .long (lN a9)), (3, .int (nI t9)), (4, .long (lN (tkR b (a9 * 10000) i))), (6, .int (nI i))] → W p l e (headSpec wsX0_takeBack { frames := 1, cells := 0, slots := 0, locals := 24 }).room s m args below meth c H locs 0 0 (MQ below (va_Qv (fun w1 => w1 = wX h0 h1 h2 h3 h4 h5 h6 h7 h8 h9 cI cJ d r lc bg w rm k (pn + 1) fa e1 am dd rt (tkB b (a9 * 10000) k) (va_up pd pn d) (va_up pt pn t9) (tkT tp b (a9 * 10000) pn k)) (fun w1 t => nk_At D (tX cI cJ) A w1 t) A) args s 0 0 A) (F0 m 19 ls []) := by
      intro n
      induction n with
      | zero =>
        intro i hi hm
        exfalso; omega
      | succ n ih19 =>
        intro i hi hm H locs hP hD hS ls hl
        refine lv_iload hx hb dX0_takeBack_19 (lv_at hl 4 rfl) ?_
        refine lv_aload_n hx hb dX0_takeBack_21 rfl (lv_at hl 0 rfl) ?_
        refine va_get (D := D) (ci := 0) (v := .int (nI k)) (C := RX0) (T := TX0) (N := 17) hx hb hts hin hown hK hP 0 rfl rfl 8 (by decide) f89 (fun _ h9 => h9) rfl dX0_takeBack_22 ?_
        refine nk_icmp_ge (tgt := 84) hx hb (by omega) (by omega) dX0_takeBack_25 (by decide) (fun c25 => ?_) (fun c25 => ?_)
        · have e9 : i = k := by omega
          rw [e9] at hP hD
          refine lv_aload_n hx hb dX0_takeBack_84 rfl (lv_at hl 0 rfl) ?_
          refine va_get (D := D) (ci := 0) (v := .ref h7) (C := RX0) (T := TX0) (N := 17) hx hb hts hin hown hK hP 0 rfl rfl 14 (by decide) f33 (fun _ h9 => h9) rfl dX0_takeBack_85 ?_
          refine lv_aload_n hx hb dX0_takeBack_88 rfl (lv_at hl 0 rfl) ?_
          refine va_get (D := D) (ci := 0) (v := .int (nI pn)) (C := RX0) (T := TX0) (N := 17) hx hb hts hin hown hK hP 0 rfl rfl 13 (by decide) f98 (fun _ h9 => h9) rfl dX0_takeBack_89 ?_
          refine lv_aload_n hx hb dX0_takeBack_92 rfl (lv_at hl 0 rfl) ?_
          refine va_get (D := D) (ci := 0) (v := .int (nI d)) (C := RX0) (T := TX0) (N := 17) hx hb hts hin hown hK hP 0 rfl rfl 0 (by decide) f53 (fun _ h9 => h9) rfl dX0_takeBack_93 ?_
          refine nk_iast hx hb hK hP hD hS 7 0 rfl rfl (by omega) (by decide) dX0_takeBack_96 (fun H locs hP hD hS => ?_)
          have hP : va_P D vwCl (wX h0 h1 h2 h3 h4 h5 h6 h7 h8 h9 cI cJ d r lc bg w rm k pn fa e1 am dd rt (tkB b (a9 * 10000) k) (va_up pd pn d) pt (tkT tp b (a9 * 10000) pn k)) H := hP
          have hD : va_D A (wX h0 h1 h2 h3 h4 h5 h6 h7 h8 h9 cI cJ d r lc bg w rm k pn fa e1 am dd rt (tkB b (a9 * 10000) k) (va_up pd pn d) pt (tkT tp b (a9 * 10000) pn k)) := hD
          refine lv_aload_n hx hb dX0_takeBack_97 rfl (lv_at hl 0 rfl) ?_
          refine va_get (D := D) (ci := 0) (v := .ref h8) (C := RX0) (T := TX0) (N := 17) hx hb hts hin hown hK hP 0 rfl rfl 15 (by decide) f36 (fun _ h9 => h9) rfl dX0_takeBack_98 ?_
          refine lv_aload_n hx hb dX0_takeBack_101 rfl (lv_at hl 0 rfl) ?_
          refine va_get (D := D) (ci := 0) (v := .int (nI pn)) (C := RX0) (T := TX0) (N := 17) hx hb hts hin hown hK hP 0 rfl rfl 13 (by decide) f98 (fun _ h9 => h9) rfl dX0_takeBack_102 ?_
          refine lv_iload_n hx hb dX0_takeBack_105 rfl (lv_at hl 2 rfl) ?_
          refine nk_iast hx hb hK hP hD hS 8 0 rfl rfl (by omega) (by decide) dX0_takeBack_106 (fun H locs hP hD hS => ?_)
          have hP : va_P D vwCl (wX h0 h1 h2 h3 h4 h5 h6 h7 h8 h9 cI cJ d r lc bg w rm k pn fa e1 am dd rt (tkB b (a9 * 10000) k) (va_up pd pn d) (va_up pt pn t9) (tkT tp b (a9 * 10000) pn k)) H := hP
          have hD : va_D A (wX h0 h1 h2 h3 h4 h5 h6 h7 h8 h9 cI cJ d r lc bg w rm k pn fa e1 am dd rt (tkB b (a9 * 10000) k) (va_up pd pn d) (va_up pt pn t9) (tkT tp b (a9 * 10000) pn k)) := hD
          refine lv_aload_n hx hb dX0_takeBack_107 rfl (lv_at hl 0 rfl) ?_
          refine lv_dup hx hb dX0_takeBack_108 rfl ?_
          refine va_get (D := D) (ci := 0) (v := .int (nI pn)) (C := RX0) (T := TX0) (N := 17) hx hb hts hin hown hK hP 0 rfl rfl 13 (by decide) f98 (fun _ h9 => h9) rfl dX0_takeBack_109 ?_
          refine lv_iconst (v := nI 1) hx hb dX0_takeBack_112 (by decide +kernel) ?_
          refine nk_iadd hx hb dX0_takeBack_113 ?_
          refine va_put (D := D) (ci := 0) (v := .int (nI (pn + 1))) (ty := .int) (C := RX0) (T := TX0) (N := 17) hx hb hts hin tyX0 tyX0_ok nmX0 hown hK hP hD hS 0 rfl rfl 13 (by decide) f98 (fun _ h9 => h9) rfl (by decide +kernel) rfl rfl (Nat.le_of_ble_eq_true rfl) dX0_takeBack_114 (fun H locs hP hD hS => ?_)
          have hP : va_P D vwCl (wX h0 h1 h2 h3 h4 h5 h6 h7 h8 h9 cI cJ d r lc bg w rm k (pn + 1) fa e1 am dd rt (tkB b (a9 * 10000) k) (va_up pd pn d) (va_up pt pn t9) (tkT tp b (a9 * 10000) pn k)) H := hP
          have hD : va_D A (wX h0 h1 h2 h3 h4 h5 h6 h7 h8 h9 cI cJ d r lc bg w rm k (pn + 1) fa e1 am dd rt (tkB b (a9 * 10000) k) (va_up pd pn d) (va_up pt pn t9) (tkT tp b (a9 * 10000) pn k)) := hD
          exact W.vret hx hb hr (fun t ht hW => ⟨⟨wX h0 h1 h2 h3 h4 h5 h6 h7 h8 h9 cI cJ d r lc bg w rm k (pn + 1) fa e1 am dd rt (tkB b (a9 * 10000) k) (va_up pd pn d) (va_up pt pn t9) (tkT tp b (a9 * 10000) pn k), rfl, rfl, by rw [ht]; exact hP, va_K.moved hW.alike hK, hD⟩, hS.F ht⟩) hS.2.2 dX0_takeBack_117
        · refine lv_lload hx hb dX0_takeBack_28 (lv_at hl 3 rfl) ?_
          refine lv_aload_n hx hb dX0_takeBack_30 rfl (lv_at hl 0 rfl) ?_
          refine va_get (D := D) (ci := 0) (v := .ref h6) (C := RX0) (T := TX0) (N := 17) hx hb hts hin hown hK hP 0 rfl rfl 12 (by decide) f29 (fun _ h9 => h9) rfl dX0_takeBack_31 ?_
          refine lv_iload hx hb dX0_takeBack_34 (lv_at hl 4 rfl) ?_
          refine nk_lald hx hb hK hP 6 1 rfl rfl (by omega) (by decide) dX0_takeBack_36 ?_
          refine nk_topl (y := (lN (b i))) (congrArg lN (tkB_self _ _ _)) ?_
          have hr1 := tkR_le b (a9 * 10000) i
          have hb1 := hb9 i (by omega)
          refine va_mmin_long hx hb (hml.trans hl.1.symm) hown (hts (.methodLink RX0 155 Lib.MathLoose.min_long.x) (by decide +kernel)) (hts (.static Lib.MathLoose.min_long.x) (by decide +kernel)) (hts (.initialized "java/lang/Math") (by decide +kernel)) (hts (.code Lib.MathLoose.min_long.x Lib.MathLoose.min_long.code 4 (some .long)) (by decide +kernel)) (Nat.le_of_ble_eq_true rfl) (Nat.le_of_ble_eq_true rfl) (Nat.zero_le _) (Nat.zero_le _) dX0_takeBack_37 ?_
          refine nk_topl (y := (lN (min (tkR b (a9 * 10000) i) (b i)))) (nk_minL (by omega) (by omega)) ?_
          refine lv_lstore (lv' := [(7, .long (lN (min (tkR b (a9 * 10000) i) (b i)))), (0, .ref h0), (1, .long (lN a9)), (3, .int (nI t9)), (4, .long (lN (tkR b (a9 * 10000) i))), (6, .int (nI i))]) hx hb dX0_takeBack_40 hl (by decide) rfl (fun ls hl => ?_)
          refine lv_aload_n hx hb dX0_takeBack_42 rfl (lv_at hl 1 rfl) ?_
          refine va_get (D := D) (ci := 0) (v := .ref h6) (C := RX0) (T := TX0) (N := 17) hx hb hts hin hown hK hP 0 rfl rfl 12 (by decide) f29 (fun _ h9 => h9) rfl dX0_takeBack_43 ?_
          refine lv_iload hx hb dX0_takeBack_46 (lv_at hl 5 rfl) ?_
          refine lv_dup2_11 hx hb dX0_takeBack_48 rfl rfl ?_
          refine nk_lald hx hb hK hP 6 1 rfl rfl (by omega) (by decide) dX0_takeBack_49 ?_
          refine nk_topl (y := (lN (b i))) (congrArg lN (tkB_self _ _ _)) ?_
          refine lv_lload hx hb dX0_takeBack_50 (lv_at hl 0 rfl) ?_
          refine nk_lsub hx hb (Nat.min_le_right _ _) dX0_takeBack_52 ?_
          refine nk_last hx hb hK hP hD hS 6 1 rfl rfl (by omega) (by decide) dX0_takeBack_53 (fun H locs hP hD hS => ?_)
          have hP : va_P D vwCl (wX h0 h1 h2 h3 h4 h5 h6 h7 h8 h9 cI cJ d r lc bg w rm k pn fa e1 am dd rt (va_up (tkB b (a9 * 10000) i) i ((b i) - (min (tkR b (a9 * 10000) i) (b i)))) pd pt (tkT tp b (a9 * 10000) pn i)) H := hP
          have hD : va_D A (wX h0 h1 h2 h3 h4 h5 h6 h7 h8 h9 cI cJ d r lc bg w rm k pn fa e1 am dd rt (va_up (tkB b (a9 * 10000) i) i ((b i) - (min (tkR b (a9 * 10000) i) (b i)))) pd pt (tkT tp b (a9 * 10000) pn i)) := hD
          rw [tkB_s] at hP hD
          refine lv_lload hx hb dX0_takeBack_54 (lv_at hl 4 rfl) ?_
          refine lv_lload hx hb dX0_takeBack_56 (lv_at hl 0 rfl) ?_
          refine nk_lsub hx hb (Nat.min_le_left _ _) dX0_takeBack_58 ?_
          refine lv_lstore (lv' := [(4, .long (lN ((tkR b (a9 * 10000) i) - (min (tkR b (a9 * 10000) i) (b i))))), (7, .long (lN (min (tkR b (a9 * 10000) i) (b i)))), (0, .ref h0), (1, .long (lN a9)), (3, .int (nI t9)), (6, .int (nI i))]) hx hb dX0_takeBack_59 hl (by decide) rfl (fun ls hl => ?_)
          refine lv_aload_n hx hb dX0_takeBack_61 rfl (lv_at hl 2 rfl) ?_
          refine va_get (D := D) (ci := 0) (v := .ref h9) (C := RX0) (T := TX0) (N := 17) hx hb hts hin hown hK hP 0 rfl rfl 16 (by decide) f39 (fun _ h9 => h9) rfl dX0_takeBack_62 ?_
          refine lv_iload hx hb dX0_takeBack_65 (lv_at hl 5 rfl) ?_
          refine lv_bipush (v := nI 40) hx hb dX0_takeBack_67 (by decide +kernel) ?_
          refine nk_imul hx hb dX0_takeBack_69 ?_
          refine lv_aload_n hx hb dX0_takeBack_70 rfl (lv_at hl 2 rfl) ?_
          refine va_get (D := D) (ci := 0) (v := .int (nI pn)) (C := RX0) (T := TX0) (N := 17) hx hb hts hin hown hK hP 0 rfl rfl 13 (by decide) f98 (fun _ h9 => h9) rfl dX0_takeBack_71 ?_
          refine nk_iadd hx hb dX0_takeBack_74 ?_
          refine lv_lload hx hb dX0_takeBack_75 (lv_at hl 1 rfl) ?_
          refine nk_last hx hb hK hP hD hS 9 1 rfl rfl (by omega) (by decide) dX0_takeBack_77 (fun H locs hP hD hS => ?_)
          have hP : va_P D vwCl (wX h0 h1 h2 h3 h4 h5 h6 h7 h8 h9 cI cJ d r lc bg w rm k pn fa e1 am dd rt (tkB b (a9 * 10000) (i + 1)) pd pt (va_up (tkT tp b (a9 * 10000) pn i) ((i * 40) + pn) (min (tkR b (a9 * 10000) i) (b i)))) H := hP
          have hD : va_D A (wX h0 h1 h2 h3 h4 h5 h6 h7 h8 h9 cI cJ d r lc bg w rm k pn fa e1 am dd rt (tkB b (a9 * 10000) (i + 1)) pd pt (va_up (tkT tp b (a9 * 10000) pn i) ((i * 40) + pn) (min (tkR b (a9 * 10000) i) (b i)))) := hD
          rw [tkT_s _ _ _ _ _ hp40] at hP hD
          refine lv_iinc (v := (nI (i + 1))) (lv' := [(6, .int (nI (i + 1))), (4, .long (lN ((tkR b (a9 * 10000) i) - (min (tkR b (a9 * 10000) i) (b i))))), (7, .long (lN (min (tkR b (a9 * 10000) i) (b i)))), (0, .ref h0), (1, .long (lN a9)), (3, .int (nI t9))]) hx hb dX0_takeBack_78 hl (k := 5) rfl (nI_1 _) (by decide) rfl (fun ls hl => ?_)
          refine lv_goto (tgt := 19) hx hb dX0_takeBack_81 (by decide) ?_
          have q9 : ((lN (tkR b (a9 * 10000) (i + 1)))) = ((lN ((tkR b (a9 * 10000) i) - (min (tkR b (a9 * 10000) i) (b i))))) := (by rw [tkR_s]; congr 1; omega)
          have hl : lv_has ls 9 [(0, .ref h0), (1, .long (lN a9)), (3, .int (nI t9)), (4, .long (lN (tkR b (a9 * 10000) (i + 1)))), (6, .int (nI (i + 1)))] := by
            rw [q9]
            exact lv_sub hl [3, 4, 5, 1, 0] rfl
          exact ih19 (i + 1) (by omega) (by omega) H locs hP hD hS ls hl
    have hP : va_P D vwCl (wX h0 h1 h2 h3 h4 h5 h6 h7 h8 h9 cI cJ d r lc bg w rm k pn fa e1 am dd rt (tkB b (a9 * 10000) 0) pd pt (tkT tp b (a9 * 10000) pn 0)) s.heap := by rw [tkB_0, tkT_0]; exact hP
    have hD : va_D A (wX h0 h1 h2 h3 h4 h5 h6 h7 h8 h9 cI cJ d r lc bg w rm k pn fa e1 am dd rt (tkB b (a9 * 10000) 0) pd pt (tkT tp b (a9 * 10000) pn 0)) := by rw [tkB_0, tkT_0]; exact hD
    exact loop19 (k + 1) 0 (by omega) (by omega) s.heap [] hP hD hS ls (lv_sub hl [2, 3, 4, 1, 0] rfl)
set_option maxHeartbeats 4000000 in
set_option maxRecDepth 100000 in
theorem c_X0_setRate (l : Launch) (hfl : l.stackTraces = false) (D : va_G) (h0 h1 h2 h3 h4 h5 h6 h7 h8 h9 : Nat) (cI cJ : ClassId) (d r lc bg w rm k pn : Nat) (fa e1 am dd rt b pd pt tp : Nat → Nat) (sz : Nat) (p0 : Int32) (z : Int) (a9 : Nat)  (hz : p0.toInt = z) (hpa : 0 ≤ z → p0 = nI a9 ∧ a9 < 2147483648)  : vx_Met l yX0_setRate wsX0_setRate { frames := 7, cells := 1, slots := 6, locals := 114 } (nk_Px D (wX h0 h1 h2 h3 h4 h5 h6 h7 h8 h9 cI cJ d r lc bg w rm k pn fa e1 am dd rt b pd pt tp) (tX cI cJ) sz [.ref h0, .int p0]) (va_Qi (fun r9 w1 => (0 ≤ z ∧ z ≤ 2000) ∧ r9 = nI r ∧ w1 = wX h0 h1 h2 h3 h4 h5 h6 h7 h8 h9 cI cJ d a9 lc bg w rm k pn fa e1 am dd rt b pd pt tp) (fun w1 t => nk_At D (tX cI cJ) (va_A (wX h0 h1 h2 h3 h4 h5 h6 h7 h8 h9 cI cJ d r lc bg w rm k pn fa e1 am dd rt b pd pt tp) sz) w1 t) (va_A (wX h0 h1 h2 h3 h4 h5 h6 h7 h8 h9 cI cJ d r lc bg w rm k pn fa e1 am dd rt b pd pt tp) sz)) (nk_XC (fun E => E = RIA ∧ ¬ (0 ≤ z ∧ z ≤ 2000)) sz) 1 6 (va_A (wX h0 h1 h2 h3 h4 h5 h6 h7 h8 h9 cI cJ d r lc bg w rm k pn fa e1 am dd rt b pd pt tp) sz) := by
  refine vx_ofW (cc := cX0_setRate) (maxL := 3) (ret := (some .int)) (by decide) rfl ?_
  intro p e s m args below meth c s₁ B hml htab hv
  obtain ⟨hargs, hsz, hP, hK, hD0, hZ⟩ := hv
  have hx := B.exec
  have hb := B.bytes
  have hr := B.returns
  have hts := atoms_spec (ws := wsX0_setRate) B.pre
  have hown : s.vm.findClass RX0 = some m.cls := findClass_of_methodNamed B.named
  have hlocks := B.notSynchronized
  subst hsz
  have hin : ∀ w ∈ wsX00, w ∈ wsX0_setRate := by decide +kernel
  have hD := hD0.self (sz := s.heap.size)
  generalize hAe : va_A (wX h0 h1 h2 h3 h4 h5 h6 h7 h8 h9 cI cJ d r lc bg w rm k pn fa e1 am dd rt b pd pt tp) s.heap.size = A at hD ⊢
  have hA : ∀ q : Nat, s.heap.size ≤ q → A q := fun q h => by rw [← hAe]; exact Or.inr h
  have hS : va_S A s.heap s.heap [] := va_S.rf
  have hSz : va_S (va_A (wX h0 h1 h2 h3 h4 h5 h6 h7 h8 h9 cI cJ d r lc bg w rm k pn fa e1 am dd rt b pd pt tp) s.heap.size) s.heap s.heap [] := va_S.rf
  have f9 := hts (.fieldLink RX0 9 "EquityRelease" "rateNow" "I") (by decide +kernel)
  have hl := lv_entry ([.ref h0, .int p0]) (n := 3) (Nat.le_of_ble_eq_true rfl)
  have hEe : entryFrame m args 3 = entryFrame m ([.ref h0, .int p0] : List Value).toArray 3 := by rw [hargs]
  rw [hEe, lg_entry_eq]
  generalize (lg_sl ([.ref h0, .int p0]) ++ List.replicate (3 - (lg_sl ([.ref h0, .int p0])).length) Slot.unset).toArray = ls at hl ⊢
  have hl : lv_has ls 3 [(0, .ref h0), (1, .int p0)] := hl
  refine lv_iload_n hx hb dX0_setRate_0 rfl (lv_at hl 1 rfl) ?_
  refine lv_iconst (v := nI 0) hx hb dX0_setRate_1 (by decide +kernel) ?_
  refine lv_sipush (v := nI 2000) hx hb dX0_setRate_2 (by decide +kernel) ?_
  refine nk_rdx (vx_runS (As := [.int p0, .int (nI 0), .int (nI 2000)]) (rest := []) ⟨hx, hb, hml, hown, hts⟩ (c_X0_requireWithin l hfl s.heap.size p0 z 0 2000 hz (by decide) (by decide)) (va_cwS 3 hts gX0_setRate_X0_requireWithin rfl rfl rfl (by decide +kernel) ⟨Nat.le_of_ble_eq_true rfl, Nat.le_of_ble_eq_true rfl⟩) ⟨nk_Ps.blind, fun U hU hW => ⟨rfl, by rw [hU], by rw [hU]; exact nk_Z.go hZ hW (fun q h => Or.inr h)⟩⟩ rfl rfl hl.1 rfl (lv_room (Nat.le_of_ble_eq_true rfl)) dX0_setRate_5 ⟨Nat.le_of_ble_eq_true rfl, Nat.le_of_ble_eq_true rfl⟩) hS hA (fun E ce q9 H1 hE hz hk9 hS1 hce hcv hcl => ?_) (fun hok5 => ?_)
  · exact vx_out (fun x h => (htab x h).elim) hlocks hce hcv hcl (fun t ht hW => ⟨(), trivial, ⟨hE.1, by have := hE.2; omega⟩, by rw [ht]; exact hz, fun q h1 _ => by rw [ht]; exact hk9 q h1⟩) (fun z h => nomatch h) (Nat.le_of_ble_eq_true rfl) (Nat.le_of_ble_eq_true rfl)
  refine W.eq (g2 := F0 m 8 ls []) rfl ?_
  obtain ⟨rfl, ha9⟩ := hpa (by omega)
  have za : z = (a9 : Int) := by rw [← hz]; exact nI_toInt (by omega)
  refine lv_aload_n hx hb dX0_setRate_8 rfl (lv_at hl 0 rfl) ?_
  refine va_get (D := D) (ci := 0) (v := .int (nI r)) (C := RX0) (T := TX0) (N := 17) hx hb hts hin hown hK hP 0 rfl rfl 1 (by decide) f9 (fun _ h9 => h9) rfl dX0_setRate_9 ?_
  refine lv_istore_n (lv' := [(2, .int (nI r)), (0, .ref h0), (1, .int (nI a9))]) hx hb dX0_setRate_12 rfl hl (by decide) rfl (fun ls hl => ?_)
  refine lv_aload_n hx hb dX0_setRate_13 rfl (lv_at hl 1 rfl) ?_
  refine lv_iload_n hx hb dX0_setRate_14 rfl (lv_at hl 2 rfl) ?_
  refine va_put (D := D) (ci := 0) (v := .int (nI a9)) (ty := .int) (C := RX0) (T := TX0) (N := 17) hx hb hts hin tyX0 tyX0_ok nmX0 hown hK hP hD hS 0 rfl rfl 1 (by decide) f9 (fun _ h9 => h9) rfl (by decide +kernel) rfl rfl (Nat.le_of_ble_eq_true rfl) dX0_setRate_15 (fun H locs hP hD hS => ?_)
  have hP : va_P D vwCl (wX h0 h1 h2 h3 h4 h5 h6 h7 h8 h9 cI cJ d a9 lc bg w rm k pn fa e1 am dd rt b pd pt tp) H := hP
  have hD : va_D A (wX h0 h1 h2 h3 h4 h5 h6 h7 h8 h9 cI cJ d a9 lc bg w rm k pn fa e1 am dd rt b pd pt tp) := hD
  refine lv_iload_n hx hb dX0_setRate_18 rfl (lv_at hl 0 rfl) ?_
  refine vx_ret ?_
  refine W.widen (k := 1) (n := 6) (by decide) (by decide) ?_
  exact W.iret (v := (nI r)) hx hb hr (fun t ht hW => ⟨⟨(nI r), wX h0 h1 h2 h3 h4 h5 h6 h7 h8 h9 cI cJ d a9 lc bg w rm k pn fa e1 am dd rt b pd pt tp, rfl, ⟨by omega, rfl, rfl⟩, by rw [ht]; exact hP, va_K.moved hW.alike hK, hD⟩, hS.F ht⟩) hS.2.2 dX0_setRate_19
set_option maxHeartbeats 4000000 in
set_option maxRecDepth 100000 in
theorem c_X0_draw (l : Launch) (hfl : l.stackTraces = false) (D : va_G) (h0 h1 h2 h3 h4 h5 h6 h7 h8 h9 : Nat) (cI cJ : ClassId) (d r lc bg w rm k pn : Nat) (fa e1 am dd rt b pd pt tp : Nat → Nat) (sz : Nat) (p0 : Int32) (z : Int) (a9 : Nat)  (hz : p0.toInt = z) (hpa : 0 ≤ z → p0 = nI a9 ∧ a9 < 2147483648) (hlc : lc ≤ 2) (he : ∀ j, j < lc → e1 j ≤ 15001) (hk : k ≤ 20) (hrm : rm ≤ 10000000) : vx_Met l yX0_draw wsX0_draw { frames := 7, cells := 1, slots := 6, locals := 114 } (nk_Px D (wX h0 h1 h2 h3 h4 h5 h6 h7 h8 h9 cI cJ d r lc bg w rm k pn fa e1 am dd rt b pd pt tp) (tX cI cJ) sz [.ref h0, .int p0]) (va_Qi (fun r9 w1 => (1 ≤ z ∧ z ≤ 10000000) ∧ (0 < lc ∧ 0 < alive e1 lc) ∧ (a9 ≤ rm ∧ k < 20) ∧ r9 = nI (rm - a9) ∧ w1 = wX h0 h1 h2 h3 h4 h5 h6 h7 h8 h9 cI cJ d r lc bg w (rm - a9) (k + 1) pn fa e1 (va_up am k a9) (va_up dd k d) (va_up rt k r) (va_up b k (a9 * 10000)) pd pt tp) (fun w1 t => nk_At D (tX cI cJ) (va_A (wX h0 h1 h2 h3 h4 h5 h6 h7 h8 h9 cI cJ d r lc bg w rm k pn fa e1 am dd rt b pd pt tp) sz) w1 t) (va_A (wX h0 h1 h2 h3 h4 h5 h6 h7 h8 h9 cI cJ d r lc bg w rm k pn fa e1 am dd rt b pd pt tp) sz)) (nk_XC (fun E => (E = RIA ∧ ¬ (1 ≤ z ∧ z ≤ 10000000)) ∨ (E = RIS ∧ (1 ≤ z ∧ z ≤ 10000000) ∧ ¬ ((0 < lc ∧ 0 < alive e1 lc) ∧ (a9 ≤ rm ∧ k < 20)))) sz) 1 6 (va_A (wX h0 h1 h2 h3 h4 h5 h6 h7 h8 h9 cI cJ d r lc bg w rm k pn fa e1 am dd rt b pd pt tp) sz) := by
  refine vx_ofW (cc := cX0_draw) (maxL := 2) (ret := (some .int)) (by decide) rfl ?_
  intro p e s m args below meth c s₁ B hml htab hv
  obtain ⟨hargs, hsz, hP, hK, hD0, hZ⟩ := hv
  have hx := B.exec
  have hb := B.bytes
  have hr := B.returns
  have hts := atoms_spec (ws := wsX0_draw) B.pre
  have hown : s.vm.findClass RX0 = some m.cls := findClass_of_methodNamed B.named
  have hlocks := B.notSynchronized
  subst hsz
  have hin : ∀ w ∈ wsX00, w ∈ wsX0_draw := by decide +kernel
  have hD := hD0.self (sz := s.heap.size)
  generalize hAe : va_A (wX h0 h1 h2 h3 h4 h5 h6 h7 h8 h9 cI cJ d r lc bg w rm k pn fa e1 am dd rt b pd pt tp) s.heap.size = A at hD ⊢
  have hA : ∀ q : Nat, s.heap.size ≤ q → A q := fun q h => by rw [← hAe]; exact Or.inr h
  have hS : va_S A s.heap s.heap [] := va_S.rf
  have hSz : va_S (va_A (wX h0 h1 h2 h3 h4 h5 h6 h7 h8 h9 cI cJ d r lc bg w rm k pn fa e1 am dd rt b pd pt tp) s.heap.size) s.heap s.heap [] := va_S.rf
  obtain ⟨fx, hr65, hr92, hr101, hr111, hr125, hr128, hr134, hr136, hr145, hr167, hr170⟩ := hZ.2.2.2
  have k42 : (Cond.constant RX0 42 (nI 10000000)).before args s = true := by
    rw [show (nI 10000000 : Int32) = 10000000 from by decide +kernel]
    exact hts (.constant RX0 42 (10000000)) (by decide +kernel)
  have f80 := hts (.fieldLink RX0 80 "EquityRelease" "roomLeft" "I") (by decide +kernel)
  have a67 : ∀ w ∈ vx_atS RX0 67 RIS ["java/lang/RuntimeException", "java/lang/Exception"], w.before args s = true := vx_hat (B := [.castable RIS RIS, .declares (Bundle.initS "java/lang/RuntimeException"), .declares (Bundle.initS "java/lang/Exception"), .declares (Bundle.initS Bundle.tN)]) (fun w h => hts w ((by decide +kernel : ∀ w ∈ (vx_atS RX0 67 RIS ["java/lang/RuntimeException", "java/lang/Exception"]).filter goodWord, w ∈ wsX0_draw) w h)) (by decide +kernel) (vx_c (va_Nw.use (A := args) rfl hZ.2.1.2.1) (vx_c (va_Nw.use (A := args) rfl hZ.2.2.1.1) (vx_c (va_Nw.use (A := args) rfl hZ.2.2.1.2.1) (vx_c (va_Nw.use (A := args) rfl hZ.2.2.1.2.2) vx_n))))
  have f89 := hts (.fieldLink RX0 89 "EquityRelease" "drawingCount" "I") (by decide +kernel)
  have hl := lv_entry ([.ref h0, .int p0]) (n := 2) (Nat.le_of_ble_eq_true rfl)
  have hEe : entryFrame m args 2 = entryFrame m ([.ref h0, .int p0] : List Value).toArray 2 := by rw [hargs]
  rw [hEe, lg_entry_eq]
  generalize (lg_sl ([.ref h0, .int p0]) ++ List.replicate (2 - (lg_sl ([.ref h0, .int p0])).length) Slot.unset).toArray = ls at hl ⊢
  have hl : lv_has ls 2 [(0, .ref h0), (1, .int p0)] := hl
  refine lv_iload_n hx hb dX0_draw_0 rfl (lv_at hl 1 rfl) ?_
  refine lv_iconst (v := nI 1) hx hb dX0_draw_1 (by decide +kernel) ?_
  refine lv_ldc (v := nI 10000000) hx hb hown k42 dX0_draw_2 ?_
  refine nk_rdx (vx_runS (As := [.int p0, .int (nI 1), .int (nI 10000000)]) (rest := []) ⟨hx, hb, hml, hown, hts⟩ (c_X0_requireWithin l hfl s.heap.size p0 z 1 10000000 hz (by decide) (by decide)) (va_cwS 3 hts gX0_draw_X0_requireWithin rfl rfl rfl (by decide +kernel) ⟨Nat.le_of_ble_eq_true rfl, Nat.le_of_ble_eq_true rfl⟩) ⟨nk_Ps.blind, fun U hU hW => ⟨rfl, by rw [hU], by rw [hU]; exact nk_Z.go hZ hW (fun q h => Or.inr h)⟩⟩ rfl rfl hl.1 rfl (lv_room (Nat.le_of_ble_eq_true rfl)) dX0_draw_4 ⟨Nat.le_of_ble_eq_true rfl, Nat.le_of_ble_eq_true rfl⟩) hS hA (fun E ce q9 H1 hE hz hk9 hS1 hce hcv hcl => ?_) (fun hok4 => ?_)
  · exact vx_out (fun x h => (htab x h).elim) hlocks hce hcv hcl (fun t ht hW => ⟨(), trivial, Or.inl ⟨hE.1, by have := hE.2; omega⟩, by rw [ht]; exact hz, fun q h1 _ => by rw [ht]; exact hk9 q h1⟩) (fun z h => nomatch h) (Nat.le_of_ble_eq_true rfl) (Nat.le_of_ble_eq_true rfl)
  refine W.eq (g2 := F0 m 7 ls []) rfl ?_
  obtain ⟨rfl, ha9⟩ := hpa (by omega)
  have za : z = (a9 : Int) := by rw [← hz]; exact nI_toInt (by omega)
  refine lv_aload_n hx hb dX0_draw_7 rfl (lv_at hl 0 rfl) ?_
  refine nk_rdx (vx_runV (As := []) (rest := []) ⟨hx, hb, hml, hown, hts⟩ (c_X0_requireRunning l hfl D h0 h1 h2 h3 h4 h5 h6 h7 h8 h9 cI cJ d r lc bg w rm k pn fa e1 am dd rt b pd pt tp s.heap.size hlc he) (cwV 0 hts gX0_draw_X0_requireRunning rfl rfl rfl (by decide +kernel) ⟨Nat.le_of_ble_eq_true rfl, Nat.le_of_ble_eq_true rfl⟩) ⟨nk_Px.blind, va_recv hK hP (ci := 0) (q0 := 0) rfl rfl, fun U hU hW => ⟨rfl, by rw [hU], by rw [hU]; exact hP, va_K.moved hW.alike hK, hD.weaken (fun _ _ _ _ => trivial), by rw [hU]; exact nk_Z.go hZ hW (fun _ h => h)⟩⟩ rfl rfl hl.1 rfl (lv_room (Nat.le_of_ble_eq_true rfl)) dX0_draw_8 ⟨Nat.le_of_ble_eq_true rfl, Nat.le_of_ble_eq_true rfl⟩) hS hA (fun E ce q9 H1 hE hz hk9 hS1 hce hcv hcl => ?_) (fun hok8 => ?_)
  · exact vx_out (fun x h => (htab x h).elim) hlocks hce hcv hcl (fun t ht hW => ⟨(), trivial, Or.inr ⟨hE.1, by omega, fun q => hE.2 q.1⟩, by rw [ht]; exact hz, fun q h1 _ => by rw [ht]; exact hk9 q h1⟩) (fun z h => nomatch h) (Nat.le_of_ble_eq_true rfl) (Nat.le_of_ble_eq_true rfl)
  refine W.eq (g2 := F0 m 11 ls []) rfl ?_
  refine lv_iload_n hx hb dX0_draw_11 rfl (lv_at hl 1 rfl) ?_
  refine lv_aload_n hx hb dX0_draw_12 rfl (lv_at hl 0 rfl) ?_
  refine va_get (D := D) (ci := 0) (v := .int (nI rm)) (C := RX0) (T := TX0) (N := 17) hx hb hts hin hown hK hP 0 rfl rfl 7 (by decide) f80 (fun _ h9 => h9) rfl dX0_draw_13 ?_
  refine nk_icmp_gt (tgt := 28) hx hb (by omega) (by omega) dX0_draw_16 (by decide) (fun c16 => ?_) (fun c16 => ?_)
  · exact vx_throwS (own := RX0) (cls := RIS) (names := ["java/lang/RuntimeException", "java/lang/Exception"]) (ik := 63) (is := 92) (ic := 67) (A := va_A (wX h0 h1 h2 h3 h4 h5 h6 h7 h8 h9 cI cJ d r lc bg w rm k pn fa e1 am dd rt b pd pt tp) s.heap.size) hx hb hfl hown (by decide +kernel) (by decide +kernel) (hts (.classLink RX0 63 RIS) (by decide +kernel)) (hts (.initialized RIS) (by decide +kernel)) hr92 a67 (by decide +kernel) hZ.1.1 hZ.1.2 hSz (hl.1.trans hml.symm) dX0_draw_28 dX0_draw_31 dX0_draw_32 dX0_draw_34 dX0_draw_37 (fun x h => (htab x h).elim) (Nat.le_of_ble_eq_true rfl) (Nat.le_of_ble_eq_true rfl) (Nat.le_of_ble_eq_true rfl) (Nat.le_of_ble_eq_true rfl) hlocks (fun t hvm hsz9 hk9 => ⟨(), trivial, Or.inr ⟨rfl, by omega, fun q => by omega⟩, hsz9, fun q h1 _ => hk9 q h1⟩) (fun z h => nomatch h) (Nat.le_of_ble_eq_true rfl) (Nat.le_of_ble_eq_true rfl)
  · refine lv_aload_n hx hb dX0_draw_19 rfl (lv_at hl 0 rfl) ?_
    refine va_get (D := D) (ci := 0) (v := .int (nI k)) (C := RX0) (T := TX0) (N := 17) hx hb hts hin hown hK hP 0 rfl rfl 8 (by decide) f89 (fun _ h9 => h9) rfl dX0_draw_20 ?_
    refine lv_bipush (v := nI 20) hx hb dX0_draw_23 (by decide +kernel) ?_
    refine nk_icmp_lt (tgt := 38) hx hb (by omega) (by omega) dX0_draw_25 (by decide) (fun c25 => ?_) (fun c25 => ?_)
    · refine lv_aload_n hx hb dX0_draw_38 rfl (lv_at hl 0 rfl) ?_
      refine lv_iload_n hx hb dX0_draw_39 rfl (lv_at hl 1 rfl) ?_
      refine nk_vcall (wr := []) (va_runV (As := [.int (nI a9)]) (rest := []) ⟨hx, hb, hml, hown, hts⟩ (c_X0_addDrawing l D h0 h1 h2 h3 h4 h5 h6 h7 h8 h9 cI cJ d r lc bg w rm k pn fa e1 am dd rt b pd pt tp s.heap.size a9 (by omega) (by omega) (by omega)) (cwV 1 hts gX0_draw_X0_addDrawing rfl rfl rfl (by decide +kernel) ⟨Nat.le_of_ble_eq_true rfl, Nat.le_of_ble_eq_true rfl⟩) ⟨nk_Pw.blind, va_recv hK hP (ci := 0) (q0 := 0) rfl rfl, fun U hU hW => ⟨rfl, by rw [hU], by rw [hU]; exact hP, va_K.moved hW.alike hK, hD.weaken (fun _ _ _ _ => trivial)⟩⟩ rfl rfl hl.1 rfl (lv_room (Nat.le_of_ble_eq_true rfl)) dX0_draw_40 ⟨Nat.zero_le _, Nat.zero_le _⟩) hP hD hS hA [0, 1, 2, 3, 4, 5, 6, 7, 8, 9] [] rfl rfl rfl (by decide) (fun w1 H locs hw hP hD hS hk9 => ?_)
      subst hw
      have hP : va_P D vwCl (wX h0 h1 h2 h3 h4 h5 h6 h7 h8 h9 cI cJ d r lc bg w (rm - a9) (k + 1) pn fa e1 (va_up am k a9) (va_up dd k d) (va_up rt k r) (va_up b k (a9 * 10000)) pd pt tp) H := hP
      have hD : va_D A (wX h0 h1 h2 h3 h4 h5 h6 h7 h8 h9 cI cJ d r lc bg w (rm - a9) (k + 1) pn fa e1 (va_up am k a9) (va_up dd k d) (va_up rt k r) (va_up b k (a9 * 10000)) pd pt tp) := hD
      refine lv_aload_n hx hb dX0_draw_43 rfl (lv_at hl 0 rfl) ?_
      refine va_get (D := D) (ci := 0) (v := .int (nI (rm - a9))) (C := RX0) (T := TX0) (N := 17) hx hb hts hin hown hK hP 0 rfl rfl 7 (by decide) f80 (fun _ h9 => h9) rfl dX0_draw_44 ?_
      refine vx_ret ?_
      refine W.widen (k := 1) (n := 6) (by decide) (by decide) ?_
      exact W.iret (v := (nI (rm - a9))) hx hb hr (fun t ht hW => ⟨⟨(nI (rm - a9)), wX h0 h1 h2 h3 h4 h5 h6 h7 h8 h9 cI cJ d r lc bg w (rm - a9) (k + 1) pn fa e1 (va_up am k a9) (va_up dd k d) (va_up rt k r) (va_up b k (a9 * 10000)) pd pt tp, rfl, ⟨by omega, hok8, ⟨by omega, by omega⟩, rfl, rfl⟩, by rw [ht]; exact hP, va_K.moved hW.alike hK, hD⟩, hS.F ht⟩) hS.2.2 dX0_draw_47
    · exact vx_throwS (own := RX0) (cls := RIS) (names := ["java/lang/RuntimeException", "java/lang/Exception"]) (ik := 63) (is := 92) (ic := 67) (A := va_A (wX h0 h1 h2 h3 h4 h5 h6 h7 h8 h9 cI cJ d r lc bg w rm k pn fa e1 am dd rt b pd pt tp) s.heap.size) hx hb hfl hown (by decide +kernel) (by decide +kernel) (hts (.classLink RX0 63 RIS) (by decide +kernel)) (hts (.initialized RIS) (by decide +kernel)) hr92 a67 (by decide +kernel) hZ.1.1 hZ.1.2 hSz (hl.1.trans hml.symm) dX0_draw_28 dX0_draw_31 dX0_draw_32 dX0_draw_34 dX0_draw_37 (fun x h => (htab x h).elim) (Nat.le_of_ble_eq_true rfl) (Nat.le_of_ble_eq_true rfl) (Nat.le_of_ble_eq_true rfl) (Nat.le_of_ble_eq_true rfl) hlocks (fun t hvm hsz9 hk9 => ⟨(), trivial, Or.inr ⟨rfl, by omega, fun q => by omega⟩, hsz9, fun q h1 _ => hk9 q h1⟩) (fun z h => nomatch h) (Nat.le_of_ble_eq_true rfl) (Nat.le_of_ble_eq_true rfl)
set_option maxHeartbeats 4000000 in
set_option maxRecDepth 100000 in
theorem c_X0_pay (l : Launch) (hfl : l.stackTraces = false) (D : va_G) (h0 h1 h2 h3 h4 h5 h6 h7 h8 h9 : Nat) (cI cJ : ClassId) (d r lc bg w rm k pn : Nat) (fa e1 am dd rt b pd pt tp : Nat → Nat) (sz : Nat) (p0 : Int32) (z : Int) (a9 : Nat)  (hz : p0.toInt = z) (hpa : 0 ≤ z → p0 = nI a9 ∧ a9 < 2147483648) (hlc : lc ≤ 2) (he : ∀ j, j < lc → e1 j ≤ 15001) (hed : ∀ j, j < lc → e1 j ≤ d + 1) (hk : k ≤ 20) (ham : ∀ j, j < k → am j ≤ 10000000) (hpn : pn ≤ 40) (hbg : bg ≤ d) (hd : d ≤ 15000) (hpd : ∀ j, j < pn → bg ≤ pd j ∧ pd j ≤ 15000) (hpt : ∀ j, j < pn → pt j ≤ 10000000) (hbs : sm b k < 4611686018427387904) (hb9 : ∀ j, j < k → b j < 4611686018427387904) : vx_Met l yX0_pay wsX0_pay { frames := 7, cells := 1, slots := 6, locals := 114 } (nk_Px D (wX h0 h1 h2 h3 h4 h5 h6 h7 h8 h9 cI cJ d r lc bg w rm k pn fa e1 am dd rt b pd pt tp) (tX cI cJ) sz [.ref h0, .int p0]) (va_Qi (fun r9 w1 => (1 ≤ z ∧ z ≤ 10000000) ∧ (0 < lc ∧ 0 < alive e1 lc) ∧ (a9 ≤ ceilA (sm b k) ∧ pn < 40) ∧ r9 = nI (chg (mxE e1 lc) d ((d - bg) / 365) (sm am k) (pY bg pd pt ((d - bg) / 365) pn) a9) ∧ w1 = wX h0 h1 h2 h3 h4 h5 h6 h7 h8 h9 cI cJ d r lc bg w rm k (pn + 1) fa e1 am dd rt (tkB b (a9 * 10000) k) (va_up pd pn d) (va_up pt pn a9) (tkT tp b (a9 * 10000) pn k)) (fun w1 t => nk_At D (tX cI cJ) (va_A (wX h0 h1 h2 h3 h4 h5 h6 h7 h8 h9 cI cJ d r lc bg w rm k pn fa e1 am dd rt b pd pt tp) sz) w1 t) (va_A (wX h0 h1 h2 h3 h4 h5 h6 h7 h8 h9 cI cJ d r lc bg w rm k pn fa e1 am dd rt b pd pt tp) sz)) (nk_XC (fun E => (E = RIA ∧ ¬ (1 ≤ z ∧ z ≤ 10000000)) ∨ (E = RIS ∧ (1 ≤ z ∧ z ≤ 10000000) ∧ ¬ ((0 < lc ∧ 0 < alive e1 lc) ∧ (a9 ≤ ceilA (sm b k) ∧ pn < 40)))) sz) 1 6 (va_A (wX h0 h1 h2 h3 h4 h5 h6 h7 h8 h9 cI cJ d r lc bg w rm k pn fa e1 am dd rt b pd pt tp) sz) := by
  refine vx_ofW (cc := cX0_pay) (maxL := 3) (ret := (some .int)) (by decide) rfl ?_
  intro p e s m args below meth c s₁ B hml htab hv
  obtain ⟨hargs, hsz, hP, hK, hD0, hZ⟩ := hv
  have hx := B.exec
  have hb := B.bytes
  have hr := B.returns
  have hts := atoms_spec (ws := wsX0_pay) B.pre
  have hown : s.vm.findClass RX0 = some m.cls := findClass_of_methodNamed B.named
  have hlocks := B.notSynchronized
  subst hsz
  have hin : ∀ w ∈ wsX00, w ∈ wsX0_pay := by decide +kernel
  have hD := hD0.self (sz := s.heap.size)
  generalize hAe : va_A (wX h0 h1 h2 h3 h4 h5 h6 h7 h8 h9 cI cJ d r lc bg w rm k pn fa e1 am dd rt b pd pt tp) s.heap.size = A at hD ⊢
  have hA : ∀ q : Nat, s.heap.size ≤ q → A q := fun q h => by rw [← hAe]; exact Or.inr h
  have hS : va_S A s.heap s.heap [] := va_S.rf
  have hSz : va_S (va_A (wX h0 h1 h2 h3 h4 h5 h6 h7 h8 h9 cI cJ d r lc bg w rm k pn fa e1 am dd rt b pd pt tp) s.heap.size) s.heap s.heap [] := va_S.rf
  obtain ⟨fx, hr65, hr92, hr101, hr111, hr125, hr128, hr134, hr136, hr145, hr167, hr170⟩ := hZ.2.2.2
  have k42 : (Cond.constant RX0 42 (nI 10000000)).before args s = true := by
    rw [show (nI 10000000 : Int32) = 10000000 from by decide +kernel]
    exact hts (.constant RX0 42 (10000000)) (by decide +kernel)
  have a67 : ∀ w ∈ vx_atS RX0 67 RIS ["java/lang/RuntimeException", "java/lang/Exception"], w.before args s = true := vx_hat (B := [.castable RIS RIS, .declares (Bundle.initS "java/lang/RuntimeException"), .declares (Bundle.initS "java/lang/Exception"), .declares (Bundle.initS Bundle.tN)]) (fun w h => hts w ((by decide +kernel : ∀ w ∈ (vx_atS RX0 67 RIS ["java/lang/RuntimeException", "java/lang/Exception"]).filter goodWord, w ∈ wsX0_pay) w h)) (by decide +kernel) (vx_c (va_Nw.use (A := args) rfl hZ.2.1.2.1) (vx_c (va_Nw.use (A := args) rfl hZ.2.2.1.1) (vx_c (va_Nw.use (A := args) rfl hZ.2.2.1.2.1) (vx_c (va_Nw.use (A := args) rfl hZ.2.2.1.2.2) vx_n))))
  have f98 := hts (.fieldLink RX0 98 "EquityRelease" "paymentCount" "I") (by decide +kernel)
  have hl := lv_entry ([.ref h0, .int p0]) (n := 3) (Nat.le_of_ble_eq_true rfl)
  have hEe : entryFrame m args 3 = entryFrame m ([.ref h0, .int p0] : List Value).toArray 3 := by rw [hargs]
  rw [hEe, lg_entry_eq]
  generalize (lg_sl ([.ref h0, .int p0]) ++ List.replicate (3 - (lg_sl ([.ref h0, .int p0])).length) Slot.unset).toArray = ls at hl ⊢
  have hl : lv_has ls 3 [(0, .ref h0), (1, .int p0)] := hl
  refine lv_iload_n hx hb dX0_pay_0 rfl (lv_at hl 1 rfl) ?_
  refine lv_iconst (v := nI 1) hx hb dX0_pay_1 (by decide +kernel) ?_
  refine lv_ldc (v := nI 10000000) hx hb hown k42 dX0_pay_2 ?_
  refine nk_rdx (vx_runS (As := [.int p0, .int (nI 1), .int (nI 10000000)]) (rest := []) ⟨hx, hb, hml, hown, hts⟩ (c_X0_requireWithin l hfl s.heap.size p0 z 1 10000000 hz (by decide) (by decide)) (va_cwS 3 hts gX0_pay_X0_requireWithin rfl rfl rfl (by decide +kernel) ⟨Nat.le_of_ble_eq_true rfl, Nat.le_of_ble_eq_true rfl⟩) ⟨nk_Ps.blind, fun U hU hW => ⟨rfl, by rw [hU], by rw [hU]; exact nk_Z.go hZ hW (fun q h => Or.inr h)⟩⟩ rfl rfl hl.1 rfl (lv_room (Nat.le_of_ble_eq_true rfl)) dX0_pay_4 ⟨Nat.le_of_ble_eq_true rfl, Nat.le_of_ble_eq_true rfl⟩) hS hA (fun E ce q9 H1 hE hz hk9 hS1 hce hcv hcl => ?_) (fun hok4 => ?_)
  · exact vx_out (fun x h => (htab x h).elim) hlocks hce hcv hcl (fun t ht hW => ⟨(), trivial, Or.inl ⟨hE.1, by have := hE.2; omega⟩, by rw [ht]; exact hz, fun q h1 _ => by rw [ht]; exact hk9 q h1⟩) (fun z h => nomatch h) (Nat.le_of_ble_eq_true rfl) (Nat.le_of_ble_eq_true rfl)
  refine W.eq (g2 := F0 m 7 ls []) rfl ?_
  obtain ⟨rfl, ha9⟩ := hpa (by omega)
  have za : z = (a9 : Int) := by rw [← hz]; exact nI_toInt (by omega)
  refine lv_aload_n hx hb dX0_pay_7 rfl (lv_at hl 0 rfl) ?_
  refine nk_rdx (vx_runV (As := []) (rest := []) ⟨hx, hb, hml, hown, hts⟩ (c_X0_requireRunning l hfl D h0 h1 h2 h3 h4 h5 h6 h7 h8 h9 cI cJ d r lc bg w rm k pn fa e1 am dd rt b pd pt tp s.heap.size hlc he) (cwV 0 hts gX0_pay_X0_requireRunning rfl rfl rfl (by decide +kernel) ⟨Nat.le_of_ble_eq_true rfl, Nat.le_of_ble_eq_true rfl⟩) ⟨nk_Px.blind, va_recv hK hP (ci := 0) (q0 := 0) rfl rfl, fun U hU hW => ⟨rfl, by rw [hU], by rw [hU]; exact hP, va_K.moved hW.alike hK, hD.weaken (fun _ _ _ _ => trivial), by rw [hU]; exact nk_Z.go hZ hW (fun _ h => h)⟩⟩ rfl rfl hl.1 rfl (lv_room (Nat.le_of_ble_eq_true rfl)) dX0_pay_8 ⟨Nat.le_of_ble_eq_true rfl, Nat.le_of_ble_eq_true rfl⟩) hS hA (fun E ce q9 H1 hE hz hk9 hS1 hce hcv hcl => ?_) (fun hok8 => ?_)
  · exact vx_out (fun x h => (htab x h).elim) hlocks hce hcv hcl (fun t ht hW => ⟨(), trivial, Or.inr ⟨hE.1, by omega, fun q => hE.2 q.1⟩, by rw [ht]; exact hz, fun q h1 _ => by rw [ht]; exact hk9 q h1⟩) (fun z h => nomatch h) (Nat.le_of_ble_eq_true rfl) (Nat.le_of_ble_eq_true rfl)
  refine W.eq (g2 := F0 m 11 ls []) rfl ?_
  refine lv_iload_n hx hb dX0_pay_11 rfl (lv_at hl 1 rfl) ?_
  refine nk_i2l hx hb (by omega) dX0_pay_12 ?_
  refine lv_aload_n hx hb dX0_pay_13 rfl (lv_at hl 0 rfl) ?_
  refine nk_rd (W.runV (As := []) (rest := [.long (lN a9)]) ⟨hx, hb, hml, hown, hts⟩ (c_X0_debt l D h0 h1 h2 h3 h4 h5 h6 h7 h8 h9 cI cJ d r lc bg w rm k pn fa e1 am dd rt b pd pt tp hk hbs) (cwV 0 hts gX0_pay_X0_debt rfl rfl rfl (by decide +kernel) ⟨Nat.le_of_ble_eq_true rfl, Nat.le_of_ble_eq_true rfl⟩) ⟨nk_Pr.blind, va_recv hK hP (ci := 0) (q0 := 0) rfl rfl, fun U hU hW => ⟨rfl, by rw [hU]; exact hP, va_K.moved hW.alike hK⟩⟩ rfl rfl hl.1 rfl (lv_room (Nat.le_of_ble_eq_true rfl)) dX0_pay_14 ⟨Nat.zero_le _, Nat.zero_le _⟩) ?_
  refine W.eq (g2 := F0 m 17 ls [.long (lN (ceilA (sm b k))), .long (lN a9)]) rfl ?_
  have hc9 : ceilA (sm b k) < 4611686018427387904 := by unfold ceilA; omega
  refine nk_lcmp_gt (tgt := 30) hx hb (by omega) (by omega) dX0_pay_17 dX0_pay_18 (by decide) (fun c17 => ?_) (fun c17 => ?_)
  · exact vx_throwS (own := RX0) (cls := RIS) (names := ["java/lang/RuntimeException", "java/lang/Exception"]) (ik := 63) (is := 101) (ic := 67) (A := va_A (wX h0 h1 h2 h3 h4 h5 h6 h7 h8 h9 cI cJ d r lc bg w rm k pn fa e1 am dd rt b pd pt tp) s.heap.size) hx hb hfl hown (by decide +kernel) (by decide +kernel) (hts (.classLink RX0 63 RIS) (by decide +kernel)) (hts (.initialized RIS) (by decide +kernel)) hr101 a67 (by decide +kernel) hZ.1.1 hZ.1.2 hSz (hl.1.trans hml.symm) dX0_pay_30 dX0_pay_33 dX0_pay_34 dX0_pay_36 dX0_pay_39 (fun x h => (htab x h).elim) (Nat.le_of_ble_eq_true rfl) (Nat.le_of_ble_eq_true rfl) (Nat.le_of_ble_eq_true rfl) (Nat.le_of_ble_eq_true rfl) hlocks (fun t hvm hsz9 hk9 => ⟨(), trivial, Or.inr ⟨rfl, by omega, fun q => by omega⟩, hsz9, fun q h1 _ => hk9 q h1⟩) (fun z h => nomatch h) (Nat.le_of_ble_eq_true rfl) (Nat.le_of_ble_eq_true rfl)
  · refine lv_aload_n hx hb dX0_pay_21 rfl (lv_at hl 0 rfl) ?_
    refine va_get (D := D) (ci := 0) (v := .int (nI pn)) (C := RX0) (T := TX0) (N := 17) hx hb hts hin hown hK hP 0 rfl rfl 13 (by decide) f98 (fun _ h9 => h9) rfl dX0_pay_22 ?_
    refine lv_bipush (v := nI 40) hx hb dX0_pay_25 (by decide +kernel) ?_
    refine nk_icmp_lt (tgt := 40) hx hb (by omega) (by omega) dX0_pay_27 (by decide) (fun c27 => ?_) (fun c27 => ?_)
    · refine lv_aload_n hx hb dX0_pay_40 rfl (lv_at hl 0 rfl) ?_
      refine lv_iload_n hx hb dX0_pay_41 rfl (lv_at hl 1 rfl) ?_
      refine nk_rd (W.runV (As := [.int (nI a9)]) (rest := []) ⟨hx, hb, hml, hown, hts⟩ (c_X0_chargeFor l D h0 h1 h2 h3 h4 h5 h6 h7 h8 h9 cI cJ d r lc bg w rm k pn fa e1 am dd rt b pd pt tp a9 (by omega) hlc he hed hk ham hpn hbg hd hpd hpt) (cwV 1 hts gX0_pay_X0_chargeFor rfl rfl rfl (by decide +kernel) ⟨Nat.le_of_ble_eq_true rfl, Nat.le_of_ble_eq_true rfl⟩) ⟨nk_Pr.blind, va_recv hK hP (ci := 0) (q0 := 0) rfl rfl, fun U hU hW => ⟨rfl, by rw [hU]; exact hP, va_K.moved hW.alike hK⟩⟩ rfl rfl hl.1 rfl (lv_room (Nat.le_of_ble_eq_true rfl)) dX0_pay_42 ⟨Nat.zero_le _, Nat.zero_le _⟩) ?_
      refine W.eq (g2 := F0 m 45 ls [.int (nI (chg (mxE e1 lc) d ((d - bg) / 365) (sm am k) (pY bg pd pt ((d - bg) / 365) pn) a9))]) rfl ?_
      refine lv_istore_n (lv' := [(2, .int (nI (chg (mxE e1 lc) d ((d - bg) / 365) (sm am k) (pY bg pd pt ((d - bg) / 365) pn) a9))), (0, .ref h0), (1, .int (nI a9))]) hx hb dX0_pay_45 rfl hl (by decide) rfl (fun ls hl => ?_)
      refine lv_aload_n hx hb dX0_pay_46 rfl (lv_at hl 1 rfl) ?_
      refine lv_iload_n hx hb dX0_pay_47 rfl (lv_at hl 2 rfl) ?_
      refine nk_i2l hx hb (by omega) dX0_pay_48 ?_
      refine lv_iload_n hx hb dX0_pay_49 rfl (lv_at hl 2 rfl) ?_
      refine nk_vcall (wr := []) (va_runV (As := [.long (lN a9), .int (nI a9)]) (rest := []) ⟨hx, hb, hml, hown, hts⟩ (c_X0_takeBack l D h0 h1 h2 h3 h4 h5 h6 h7 h8 h9 cI cJ d r lc bg w rm k pn fa e1 am dd rt b pd pt tp s.heap.size a9 a9 (by omega) hk (by omega) hb9) (cwV 2 hts gX0_pay_X0_takeBack rfl rfl rfl (by decide +kernel) ⟨Nat.le_of_ble_eq_true rfl, Nat.le_of_ble_eq_true rfl⟩) ⟨nk_Pw.blind, va_recv hK hP (ci := 0) (q0 := 0) rfl rfl, fun U hU hW => ⟨rfl, by rw [hU], by rw [hU]; exact hP, va_K.moved hW.alike hK, hD.weaken (fun _ _ _ _ => trivial)⟩⟩ rfl rfl hl.1 rfl (lv_room (Nat.le_of_ble_eq_true rfl)) dX0_pay_50 ⟨Nat.zero_le _, Nat.zero_le _⟩) hP hD hS hA [0, 1, 2, 3, 4, 5, 6, 7, 8, 9] [] rfl rfl rfl (by decide) (fun w1 H locs hw hP hD hS hk9 => ?_)
      subst hw
      have hP : va_P D vwCl (wX h0 h1 h2 h3 h4 h5 h6 h7 h8 h9 cI cJ d r lc bg w rm k (pn + 1) fa e1 am dd rt (tkB b (a9 * 10000) k) (va_up pd pn d) (va_up pt pn a9) (tkT tp b (a9 * 10000) pn k)) H := hP
      have hD : va_D A (wX h0 h1 h2 h3 h4 h5 h6 h7 h8 h9 cI cJ d r lc bg w rm k (pn + 1) fa e1 am dd rt (tkB b (a9 * 10000) k) (va_up pd pn d) (va_up pt pn a9) (tkT tp b (a9 * 10000) pn k)) := hD
      refine lv_iload_n hx hb dX0_pay_53 rfl (lv_at hl 0 rfl) ?_
      refine vx_ret ?_
      refine W.widen (k := 1) (n := 6) (by decide) (by decide) ?_
      exact W.iret (v := (nI (chg (mxE e1 lc) d ((d - bg) / 365) (sm am k) (pY bg pd pt ((d - bg) / 365) pn) a9))) hx hb hr (fun t ht hW => ⟨⟨(nI (chg (mxE e1 lc) d ((d - bg) / 365) (sm am k) (pY bg pd pt ((d - bg) / 365) pn) a9)), wX h0 h1 h2 h3 h4 h5 h6 h7 h8 h9 cI cJ d r lc bg w rm k (pn + 1) fa e1 am dd rt (tkB b (a9 * 10000) k) (va_up pd pn d) (va_up pt pn a9) (tkT tp b (a9 * 10000) pn k), rfl, ⟨by omega, hok8, ⟨by omega, by omega⟩, rfl, rfl⟩, by rw [ht]; exact hP, va_K.moved hW.alike hK, hD⟩, hS.F ht⟩) hS.2.2 dX0_pay_54
    · exact vx_throwS (own := RX0) (cls := RIS) (names := ["java/lang/RuntimeException", "java/lang/Exception"]) (ik := 63) (is := 101) (ic := 67) (A := va_A (wX h0 h1 h2 h3 h4 h5 h6 h7 h8 h9 cI cJ d r lc bg w rm k pn fa e1 am dd rt b pd pt tp) s.heap.size) hx hb hfl hown (by decide +kernel) (by decide +kernel) (hts (.classLink RX0 63 RIS) (by decide +kernel)) (hts (.initialized RIS) (by decide +kernel)) hr101 a67 (by decide +kernel) hZ.1.1 hZ.1.2 hSz (hl.1.trans hml.symm) dX0_pay_30 dX0_pay_33 dX0_pay_34 dX0_pay_36 dX0_pay_39 (fun x h => (htab x h).elim) (Nat.le_of_ble_eq_true rfl) (Nat.le_of_ble_eq_true rfl) (Nat.le_of_ble_eq_true rfl) (Nat.le_of_ble_eq_true rfl) hlocks (fun t hvm hsz9 hk9 => ⟨(), trivial, Or.inr ⟨rfl, by omega, fun q => by omega⟩, hsz9, fun q h1 _ => hk9 q h1⟩) (fun z h => nomatch h) (Nat.le_of_ble_eq_true rfl) (Nat.le_of_ble_eq_true rfl)
set_option maxHeartbeats 4000000 in
set_option maxRecDepth 100000 in
theorem c_X0_pass (l : Launch) (hfl : l.stackTraces = false) (D : va_G) (h0 h1 h2 h3 h4 h5 h6 h7 h8 h9 : Nat) (cI cJ : ClassId) (d r lc bg w rm k pn : Nat) (fa e1 am dd rt b pd pt tp : Nat → Nat) (sz : Nat) (p0 : Int32) (z : Int) (a9 : Nat)  (hz : p0.toInt = z) (hpa : 0 ≤ z → p0 = nI a9 ∧ a9 < 2147483648) (hlc : lc ≤ 2) (he : ∀ j, j < lc → e1 j ≤ 15001) (hk : k ≤ 20) (hd : d ≤ 15000) (hroll : ∀ q, q < k → ∀ j, d + j ≤ 15000 → roll (rt q) (b q) j * rt q < 9223372036854775808) (hrt : ∀ q, q < k → rt q ≤ 2000)  : vx_Met l yX0_pass wsX0_pass { frames := 7, cells := 1, slots := 6, locals := 114 } (nk_Px D (wX h0 h1 h2 h3 h4 h5 h6 h7 h8 h9 cI cJ d r lc bg w rm k pn fa e1 am dd rt b pd pt tp) (tX cI cJ) sz [.ref h0, .int p0]) (va_Qi (fun r9 w1 => (1 ≤ z ∧ z ≤ 3650) ∧ d + a9 ≤ 15000 ∧ r9 = nI (d + a9) ∧ (((0 < lc ∧ alive e1 lc = 0) ∧ w1 = wX h0 h1 h2 h3 h4 h5 h6 h7 h8 h9 cI cJ (d + a9) r lc bg w rm k pn fa e1 am dd rt b pd pt tp) ∨ (¬ (0 < lc ∧ alive e1 lc = 0) ∧ w1 = wX h0 h1 h2 h3 h4 h5 h6 h7 h8 h9 cI cJ (d + a9) r lc bg w rm k pn fa e1 am dd rt (rlB rt b a9 k) pd pt tp))) (fun w1 t => nk_At D (tX cI cJ) (va_A (wX h0 h1 h2 h3 h4 h5 h6 h7 h8 h9 cI cJ d r lc bg w rm k pn fa e1 am dd rt b pd pt tp) sz) w1 t) (va_A (wX h0 h1 h2 h3 h4 h5 h6 h7 h8 h9 cI cJ d r lc bg w rm k pn fa e1 am dd rt b pd pt tp) sz)) (nk_XC (fun E => (E = RIA ∧ ¬ (1 ≤ z ∧ z ≤ 3650)) ∨ (E = RIS ∧ (1 ≤ z ∧ z ≤ 3650) ∧ ¬ (d + a9 ≤ 15000))) sz) 1 6 (va_A (wX h0 h1 h2 h3 h4 h5 h6 h7 h8 h9 cI cJ d r lc bg w rm k pn fa e1 am dd rt b pd pt tp) sz) := by
  refine vx_ofW (cc := cX0_pass) (maxL := 3) (ret := (some .int)) (by decide) rfl ?_
  intro p e s m args below meth c s₁ B hml htab hv
  obtain ⟨hargs, hsz, hP, hK, hD0, hZ⟩ := hv
  have hx := B.exec
  have hb := B.bytes
  have hr := B.returns
  have hts := atoms_spec (ws := wsX0_pass) B.pre
  have hown : s.vm.findClass RX0 = some m.cls := findClass_of_methodNamed B.named
  have hlocks := B.notSynchronized
  subst hsz
  have hin : ∀ w ∈ wsX00, w ∈ wsX0_pass := by decide +kernel
  have hD := hD0.self (sz := s.heap.size)
  generalize hAe : va_A (wX h0 h1 h2 h3 h4 h5 h6 h7 h8 h9 cI cJ d r lc bg w rm k pn fa e1 am dd rt b pd pt tp) s.heap.size = A at hD ⊢
  have hA : ∀ q : Nat, s.heap.size ≤ q → A q := fun q h => by rw [← hAe]; exact Or.inr h
  have hS : va_S A s.heap s.heap [] := va_S.rf
  have hSz : va_S (va_A (wX h0 h1 h2 h3 h4 h5 h6 h7 h8 h9 cI cJ d r lc bg w rm k pn fa e1 am dd rt b pd pt tp) s.heap.size) s.heap s.heap [] := va_S.rf
  obtain ⟨fx, hr65, hr92, hr101, hr111, hr125, hr128, hr134, hr136, hr145, hr167, hr170⟩ := hZ.2.2.2
  have f53 := hts (.fieldLink RX0 53 "EquityRelease" "today" "I") (by decide +kernel)
  have f89 := hts (.fieldLink RX0 89 "EquityRelease" "drawingCount" "I") (by decide +kernel)
  have f29 := hts (.fieldLink RX0 29 "EquityRelease" "balances" "[J") (by decide +kernel)
  have f26 := hts (.fieldLink RX0 26 "EquityRelease" "drawnRates" "[I") (by decide +kernel)
  have a67 : ∀ w ∈ vx_atS RX0 67 RIS ["java/lang/RuntimeException", "java/lang/Exception"], w.before args s = true := vx_hat (B := [.castable RIS RIS, .declares (Bundle.initS "java/lang/RuntimeException"), .declares (Bundle.initS "java/lang/Exception"), .declares (Bundle.initS Bundle.tN)]) (fun w h => hts w ((by decide +kernel : ∀ w ∈ (vx_atS RX0 67 RIS ["java/lang/RuntimeException", "java/lang/Exception"]).filter goodWord, w ∈ wsX0_pass) w h)) (by decide +kernel) (vx_c (va_Nw.use (A := args) rfl hZ.2.1.2.1) (vx_c (va_Nw.use (A := args) rfl hZ.2.2.1.1) (vx_c (va_Nw.use (A := args) rfl hZ.2.2.1.2.1) (vx_c (va_Nw.use (A := args) rfl hZ.2.2.1.2.2) vx_n))))
  have hl := lv_entry ([.ref h0, .int p0]) (n := 3) (Nat.le_of_ble_eq_true rfl)
  have hEe : entryFrame m args 3 = entryFrame m ([.ref h0, .int p0] : List Value).toArray 3 := by rw [hargs]
  rw [hEe, lg_entry_eq]
  generalize (lg_sl ([.ref h0, .int p0]) ++ List.replicate (3 - (lg_sl ([.ref h0, .int p0])).length) Slot.unset).toArray = ls at hl ⊢
  have hl : lv_has ls 3 [(0, .ref h0), (1, .int p0)] := hl
  refine lv_iload_n hx hb dX0_pass_0 rfl (lv_at hl 1 rfl) ?_
  refine lv_iconst (v := nI 1) hx hb dX0_pass_1 (by decide +kernel) ?_
  refine lv_sipush (v := nI 3650) hx hb dX0_pass_2 (by decide +kernel) ?_
  refine nk_rdx (vx_runS (As := [.int p0, .int (nI 1), .int (nI 3650)]) (rest := []) ⟨hx, hb, hml, hown, hts⟩ (c_X0_requireWithin l hfl s.heap.size p0 z 1 3650 hz (by decide) (by decide)) (va_cwS 3 hts gX0_pass_X0_requireWithin rfl rfl rfl (by decide +kernel) ⟨Nat.le_of_ble_eq_true rfl, Nat.le_of_ble_eq_true rfl⟩) ⟨nk_Ps.blind, fun U hU hW => ⟨rfl, by rw [hU], by rw [hU]; exact nk_Z.go hZ hW (fun q h => Or.inr h)⟩⟩ rfl rfl hl.1 rfl (lv_room (Nat.le_of_ble_eq_true rfl)) dX0_pass_5 ⟨Nat.le_of_ble_eq_true rfl, Nat.le_of_ble_eq_true rfl⟩) hS hA (fun E ce q9 H1 hE hz hk9 hS1 hce hcv hcl => ?_) (fun hok5 => ?_)
  · exact vx_out (fun x h => (htab x h).elim) hlocks hce hcv hcl (fun t ht hW => ⟨(), trivial, Or.inl ⟨hE.1, by have := hE.2; omega⟩, by rw [ht]; exact hz, fun q h1 _ => by rw [ht]; exact hk9 q h1⟩) (fun z h => nomatch h) (Nat.le_of_ble_eq_true rfl) (Nat.le_of_ble_eq_true rfl)
  refine W.eq (g2 := F0 m 8 ls []) rfl ?_
  obtain ⟨rfl, ha9⟩ := hpa (by omega)
  have za : z = (a9 : Int) := by rw [← hz]; exact nI_toInt (by omega)
  refine lv_iload_n hx hb dX0_pass_8 rfl (lv_at hl 1 rfl) ?_
  refine lv_sipush (v := nI 15000) hx hb dX0_pass_9 (by decide +kernel) ?_
  refine lv_aload_n hx hb dX0_pass_12 rfl (lv_at hl 0 rfl) ?_
  refine va_get (D := D) (ci := 0) (v := .int (nI d)) (C := RX0) (T := TX0) (N := 17) hx hb hts hin hown hK hP 0 rfl rfl 0 (by decide) f53 (fun _ h9 => h9) rfl dX0_pass_13 ?_
  refine nk_isub hx hb (by omega) dX0_pass_16 ?_
  refine nk_icmp_le (tgt := 30) hx hb (by omega) (by omega) dX0_pass_17 (by decide) (fun c17 => ?_) (fun c17 => ?_)
  · refine lv_aload_n hx hb dX0_pass_30 rfl (lv_at hl 0 rfl) ?_
    refine lv_dup hx hb dX0_pass_31 rfl ?_
    refine va_get (D := D) (ci := 0) (v := .int (nI d)) (C := RX0) (T := TX0) (N := 17) hx hb hts hin hown hK hP 0 rfl rfl 0 (by decide) f53 (fun _ h9 => h9) rfl dX0_pass_32 ?_
    refine lv_iload_n hx hb dX0_pass_35 rfl (lv_at hl 1 rfl) ?_
    refine nk_iadd hx hb dX0_pass_36 ?_
    refine va_put (D := D) (ci := 0) (v := .int (nI (d + a9))) (ty := .int) (C := RX0) (T := TX0) (N := 17) hx hb hts hin tyX0 tyX0_ok nmX0 hown hK hP hD hS 0 rfl rfl 0 (by decide) f53 (fun _ h9 => h9) rfl (by decide +kernel) rfl rfl (Nat.le_of_ble_eq_true rfl) dX0_pass_37 (fun H locs hP hD hS => ?_)
    have hP : va_P D vwCl (wX h0 h1 h2 h3 h4 h5 h6 h7 h8 h9 cI cJ (d + a9) r lc bg w rm k pn fa e1 am dd rt b pd pt tp) H := hP
    have hD : va_D A (wX h0 h1 h2 h3 h4 h5 h6 h7 h8 h9 cI cJ (d + a9) r lc bg w rm k pn fa e1 am dd rt b pd pt tp) := hD
    refine lv_aload_n hx hb dX0_pass_40 rfl (lv_at hl 0 rfl) ?_
    refine nk_rd (W.runV (As := []) (rest := []) ⟨hx, hb, hml, hown, hts⟩ (c_X0_hasEnded l D h0 h1 h2 h3 h4 h5 h6 h7 h8 h9 cI cJ (d + a9) r lc bg w rm k pn fa e1 am dd rt b pd pt tp hlc he) (cwV 0 hts gX0_pass_X0_hasEnded rfl rfl rfl (by decide +kernel) ⟨Nat.le_of_ble_eq_true rfl, Nat.le_of_ble_eq_true rfl⟩) ⟨nk_Pr.blind, va_recv hK hP (ci := 0) (q0 := 0) rfl rfl, fun U hU hW => ⟨rfl, by rw [hU]; exact hP, va_K.moved hW.alike hK⟩⟩ rfl rfl hl.1 rfl (lv_room (Nat.le_of_ble_eq_true rfl)) dX0_pass_41 ⟨Nat.zero_le _, Nat.zero_le _⟩) ?_
    refine W.eq (g2 := F0 m 44 ls [.int (nI (if 0 < lc ∧ alive e1 lc = 0 then 1 else 0))]) rfl ?_
    refine nk_bif_ne (tgt := 85) hx hb dX0_pass_44 (by decide) (fun c44 => ?_) (fun c44 => ?_)
    · refine lv_aload_n hx hb dX0_pass_85 rfl (lv_at hl 0 rfl) ?_
      refine va_get (D := D) (ci := 0) (v := .int (nI (d + a9))) (C := RX0) (T := TX0) (N := 17) hx hb hts hin hown hK hP 0 rfl rfl 0 (by decide) f53 (fun _ h9 => h9) rfl dX0_pass_86 ?_
      refine vx_ret ?_
      refine W.widen (k := 1) (n := 6) (by decide) (by decide) ?_
      exact W.iret (v := (nI (d + a9))) hx hb hr (fun t ht hW => ⟨⟨(nI (d + a9)), wX h0 h1 h2 h3 h4 h5 h6 h7 h8 h9 cI cJ (d + a9) r lc bg w rm k pn fa e1 am dd rt b pd pt tp, rfl, ⟨by omega, by omega, rfl, Or.inl ⟨c44, rfl⟩⟩, by rw [ht]; exact hP, va_K.moved hW.alike hK, hD⟩, hS.F ht⟩) hS.2.2 dX0_pass_89
    · refine lv_iconst (v := nI 0) hx hb dX0_pass_47 (by decide +kernel) ?_
      refine lv_istore_n (lv' := [(2, .int (nI 0)), (0, .ref h0), (1, .int (nI a9))]) hx hb dX0_pass_48 rfl hl (by decide) rfl (fun ls hl => ?_)
      have loop49 : ∀ (n : Nat) (i : Nat), (i ≤ k) → k + 1 ≤ i + n → ∀ (H : Heap) (locs : List Loc), va_P D vwCl (wX h0 h1 h2 h3 h4 h5 h6 h7 h8 h9 cI cJ (d + a9) r lc bg w rm k pn fa e1 am dd rt (rlB rt b a9 i) pd pt tp) H → va_D A (wX h0 h1 h2 h3 h4 h5 h6 h7 h8 h9 cI cJ (d + a9) r lc bg w rm k pn fa e1 am dd rt (rlB rt b a9 i) pd pt tp) → va_S A s.heap H locs → ∀ ls : Array Slot, lv_has ls 3 [(0, .ref h0), (1, .int (nI a9)), (2, .int (nI i))] → W p l e (headSpec wsX0_pass { frames := 7, cells := 1, slots := 6, locals := 114 }).room s m args below meth c H locs 0 0 (vx_MQ below (va_Qi (fun r9 w1 => (1 ≤ z ∧ z ≤ 3650) ∧ d + a9 ≤ 15000 ∧ r9 = nI (d + a9) ∧ (((0 < lc ∧ alive e1 lc = 0) ∧ w1 = wX h0 h1 h2 h3 h4 h5 h6 h7 h8 h9 cI cJ (d + a9) r lc bg w rm k pn fa e1 am dd rt b pd pt tp) ∨ (¬ (0 < lc ∧ alive e1 lc = 0) ∧ w1 = wX h0 h1 h2 h3 h4 h5 h6 h7 h8 h9 cI cJ (d + a9) r lc bg w rm k pn fa e1 am dd rt (rlB rt b a9 k) pd pt tp))) (fun w1 t => nk_At D (tX cI cJ) A w1 t) A) (nk_XC (fun E => (E = RIA ∧ ¬ (1 ≤ z ∧ z ≤ 3650)) ∨ (E = RIS ∧ (1 ≤ z ∧ z ≤ 3650) ∧ ¬ (d + a9 ≤ 15000))) s.heap.size) args s 1 6 A) (F0 m 49 ls []) := by
        intro n
        induction n with
        | zero =>
          intro i hi hm
          exfalso; omega
        | succ n ih49 =>
          intro i hi hm H locs hP hD hS ls hl
          refine lv_iload_n hx hb dX0_pass_49 rfl (lv_at hl 2 rfl) ?_
          refine lv_aload_n hx hb dX0_pass_50 rfl (lv_at hl 0 rfl) ?_
          refine va_get (D := D) (ci := 0) (v := .int (nI k)) (C := RX0) (T := TX0) (N := 17) hx hb hts hin hown hK hP 0 rfl rfl 8 (by decide) f89 (fun _ h9 => h9) rfl dX0_pass_51 ?_
          refine nk_icmp_ge (tgt := 85) hx hb (by omega) (by omega) dX0_pass_54 (by decide) (fun c54 => ?_) (fun c54 => ?_)
          · have e9 : i = k := by omega
            rw [e9] at hP hD
            refine lv_aload_n hx hb dX0_pass_85 rfl (lv_at hl 0 rfl) ?_
            refine va_get (D := D) (ci := 0) (v := .int (nI (d + a9))) (C := RX0) (T := TX0) (N := 17) hx hb hts hin hown hK hP 0 rfl rfl 0 (by decide) f53 (fun _ h9 => h9) rfl dX0_pass_86 ?_
            refine vx_ret ?_
            refine W.widen (k := 1) (n := 6) (by decide) (by decide) ?_
            exact W.iret (v := (nI (d + a9))) hx hb hr (fun t ht hW => ⟨⟨(nI (d + a9)), wX h0 h1 h2 h3 h4 h5 h6 h7 h8 h9 cI cJ (d + a9) r lc bg w rm k pn fa e1 am dd rt (rlB rt b a9 k) pd pt tp, rfl, ⟨by omega, by omega, rfl, Or.inr ⟨c44, rfl⟩⟩, by rw [ht]; exact hP, va_K.moved hW.alike hK, hD⟩, hS.F ht⟩) hS.2.2 dX0_pass_89
          · refine lv_aload_n hx hb dX0_pass_57 rfl (lv_at hl 0 rfl) ?_
            refine va_get (D := D) (ci := 0) (v := .ref h6) (C := RX0) (T := TX0) (N := 17) hx hb hts hin hown hK hP 0 rfl rfl 12 (by decide) f29 (fun _ h9 => h9) rfl dX0_pass_58 ?_
            refine lv_iload_n hx hb dX0_pass_61 rfl (lv_at hl 2 rfl) ?_
            refine lv_aload_n hx hb dX0_pass_62 rfl (lv_at hl 0 rfl) ?_
            refine va_get (D := D) (ci := 0) (v := .ref h6) (C := RX0) (T := TX0) (N := 17) hx hb hts hin hown hK hP 0 rfl rfl 12 (by decide) f29 (fun _ h9 => h9) rfl dX0_pass_63 ?_
            refine lv_iload_n hx hb dX0_pass_66 rfl (lv_at hl 2 rfl) ?_
            refine nk_lald hx hb hK hP 6 1 rfl rfl (by omega) (by decide) dX0_pass_67 ?_
            refine nk_topl (y := (lN (b i))) (congrArg lN (rlB_self _ _ _ _)) ?_
            refine lv_aload_n hx hb dX0_pass_68 rfl (lv_at hl 0 rfl) ?_
            refine va_get (D := D) (ci := 0) (v := .ref h5) (C := RX0) (T := TX0) (N := 17) hx hb hts hin hown hK hP 0 rfl rfl 11 (by decide) f26 (fun _ h9 => h9) rfl dX0_pass_69 ?_
            refine lv_iload_n hx hb dX0_pass_72 rfl (lv_at hl 2 rfl) ?_
            refine nk_iald hx hb hK hP 5 0 rfl rfl (by omega) (by decide) dX0_pass_73 ?_
            refine lv_iload_n hx hb dX0_pass_74 rfl (lv_at hl 1 rfl) ?_
            refine nk_rd (W.runS (As := [.long (lN (b i)), .int (nI (rt i)), .int (nI a9)]) (rest := [.int (nI i), .ref h6]) ⟨hx, hb, hml, hown, hts⟩ (c_X0_rolledUp l (b i) (rt i) a9 (hrt i (by omega)) (by omega) (fun j hj => hroll i (by omega) j (by omega))) (va_cwS 3 hts gX0_pass_X0_rolledUp rfl rfl rfl (by decide +kernel) ⟨Nat.le_of_ble_eq_true rfl, Nat.le_of_ble_eq_true rfl⟩) ⟨nk_P0.blind, fun U hU hW => ⟨rfl, trivial⟩⟩ rfl rfl hl.1 rfl (lv_room (Nat.le_of_ble_eq_true rfl)) dX0_pass_75 ⟨Nat.zero_le _, Nat.zero_le _⟩) ?_
            refine W.eq (g2 := F0 m 78 ls [.long (lN (roll (rt i) (b i) a9)), .int (nI i), .ref h6]) rfl ?_
            refine nk_last hx hb hK hP hD hS 6 1 rfl rfl (by omega) (by decide) dX0_pass_78 (fun H locs hP hD hS => ?_)
            have hP : va_P D vwCl (wX h0 h1 h2 h3 h4 h5 h6 h7 h8 h9 cI cJ (d + a9) r lc bg w rm k pn fa e1 am dd rt (va_up (rlB rt b a9 i) i (roll (rt i) (b i) a9)) pd pt tp) H := hP
            have hD : va_D A (wX h0 h1 h2 h3 h4 h5 h6 h7 h8 h9 cI cJ (d + a9) r lc bg w rm k pn fa e1 am dd rt (va_up (rlB rt b a9 i) i (roll (rt i) (b i) a9)) pd pt tp) := hD
            rw [rlB_s] at hP hD
            refine lv_iinc (v := (nI (i + 1))) (lv' := [(2, .int (nI (i + 1))), (0, .ref h0), (1, .int (nI a9))]) hx hb dX0_pass_79 hl (k := 2) rfl (nI_1 _) (by decide) rfl (fun ls hl => ?_)
            refine lv_goto (tgt := 49) hx hb dX0_pass_82 (by decide) ?_
            exact ih49 (i + 1) (by omega) (by omega) H locs hP hD hS ls (lv_sub hl [1, 2, 0] rfl)
      have hP : va_P D vwCl (wX h0 h1 h2 h3 h4 h5 h6 h7 h8 h9 cI cJ (d + a9) r lc bg w rm k pn fa e1 am dd rt (rlB rt b a9 0) pd pt tp) H := by rw [rlB_0]; exact hP
      have hD : va_D A (wX h0 h1 h2 h3 h4 h5 h6 h7 h8 h9 cI cJ (d + a9) r lc bg w rm k pn fa e1 am dd rt (rlB rt b a9 0) pd pt tp) := by rw [rlB_0]; exact hD
      exact loop49 (k + 1) 0 (by omega) (by omega) H locs hP hD hS ls (lv_sub hl [1, 2, 0] rfl)
  · exact vx_throwS (own := RX0) (cls := RIS) (names := ["java/lang/RuntimeException", "java/lang/Exception"]) (ik := 63) (is := 111) (ic := 67) (A := va_A (wX h0 h1 h2 h3 h4 h5 h6 h7 h8 h9 cI cJ d r lc bg w rm k pn fa e1 am dd rt b pd pt tp) s.heap.size) hx hb hfl hown (by decide +kernel) (by decide +kernel) (hts (.classLink RX0 63 RIS) (by decide +kernel)) (hts (.initialized RIS) (by decide +kernel)) hr111 a67 (by decide +kernel) hZ.1.1 hZ.1.2 hSz (hl.1.trans hml.symm) dX0_pass_20 dX0_pass_23 dX0_pass_24 dX0_pass_26 dX0_pass_29 (fun x h => (htab x h).elim) (Nat.le_of_ble_eq_true rfl) (Nat.le_of_ble_eq_true rfl) (Nat.le_of_ble_eq_true rfl) (Nat.le_of_ble_eq_true rfl) hlocks (fun t hvm hsz9 hk9 => ⟨(), trivial, Or.inr ⟨rfl, by omega, fun q => by omega⟩, hsz9, fun q h1 _ => hk9 q h1⟩) (fun z h => nomatch h) (Nat.le_of_ble_eq_true rfl) (Nat.le_of_ble_eq_true rfl)
set_option maxHeartbeats 4000000 in
set_option maxRecDepth 100000 in
theorem c_X0_end (l : Launch) (hfl : l.stackTraces = false) (D : va_G) (h0 h1 h2 h3 h4 h5 h6 h7 h8 h9 : Nat) (cI cJ : ClassId) (d r lc bg w rm k pn : Nat) (fa e1 am dd rt b pd pt tp : Nat → Nat) (sz : Nat) (p0 : Int32) (z : Int) (a9 : Nat)  (hz : p0.toInt = z) (hpa : 0 ≤ z → p0 = nI a9 ∧ a9 < 2147483648) (hlc : lc ≤ 2) (he : ∀ j, j < lc → e1 j ≤ 15001) (hd : d ≤ 15000) : vx_Met l yX0_end wsX0_end { frames := 6, cells := 1, slots := 6, locals := 92 } (nk_Px D (wX h0 h1 h2 h3 h4 h5 h6 h7 h8 h9 cI cJ d r lc bg w rm k pn fa e1 am dd rt b pd pt tp) (tX cI cJ) sz [.ref h0, .int p0]) (va_Qi (fun r9 w1 => (0 ≤ z ∧ z < (lc : Int)) ∧ e1 a9 = 0 ∧ r9 = nI (alive (va_up e1 a9 (d + 1)) lc) ∧ w1 = wX h0 h1 h2 h3 h4 h5 h6 h7 h8 h9 cI cJ d r lc bg w rm k pn fa (va_up e1 a9 (d + 1)) am dd rt b pd pt tp) (fun w1 t => nk_At D (tX cI cJ) (va_A (wX h0 h1 h2 h3 h4 h5 h6 h7 h8 h9 cI cJ d r lc bg w rm k pn fa e1 am dd rt b pd pt tp) sz) w1 t) (va_A (wX h0 h1 h2 h3 h4 h5 h6 h7 h8 h9 cI cJ d r lc bg w rm k pn fa e1 am dd rt b pd pt tp) sz)) (nk_XC (fun E => (E = RIO ∧ ¬ (0 ≤ z ∧ z < (lc : Int))) ∨ (E = RIS ∧ (0 ≤ z ∧ z < (lc : Int)) ∧ 0 < e1 a9)) sz) 1 6 (va_A (wX h0 h1 h2 h3 h4 h5 h6 h7 h8 h9 cI cJ d r lc bg w rm k pn fa e1 am dd rt b pd pt tp) sz) := by
  refine vx_ofW (cc := cX0_end) (maxL := 2) (ret := (some .int)) (by decide) rfl ?_
  intro p e s m args below meth c s₁ B hml htab hv
  obtain ⟨hargs, hsz, hP, hK, hD0, hZ⟩ := hv
  have hx := B.exec
  have hb := B.bytes
  have hr := B.returns
  have hts := atoms_spec (ws := wsX0_end) B.pre
  have hown : s.vm.findClass RX0 = some m.cls := findClass_of_methodNamed B.named
  have hlocks := B.notSynchronized
  subst hsz
  have hin : ∀ w ∈ wsX00, w ∈ wsX0_end := by decide +kernel
  have hD := hD0.self (sz := s.heap.size)
  generalize hAe : va_A (wX h0 h1 h2 h3 h4 h5 h6 h7 h8 h9 cI cJ d r lc bg w rm k pn fa e1 am dd rt b pd pt tp) s.heap.size = A at hD ⊢
  have hA : ∀ q : Nat, s.heap.size ≤ q → A q := fun q h => by rw [← hAe]; exact Or.inr h
  have hS : va_S A s.heap s.heap [] := va_S.rf
  have hSz : va_S (va_A (wX h0 h1 h2 h3 h4 h5 h6 h7 h8 h9 cI cJ d r lc bg w rm k pn fa e1 am dd rt b pd pt tp) s.heap.size) s.heap s.heap [] := va_S.rf
  obtain ⟨fx, hr65, hr92, hr101, hr111, hr125, hr128, hr134, hr136, hr145, hr167, hr170⟩ := hZ.2.2.2
  have a127 : ∀ w ∈ vx_atS RX0 127 RIO ["java/lang/RuntimeException", "java/lang/Exception"], w.before args s = true := vx_hat (B := [.castable RIO RIO, .declares (Bundle.initS "java/lang/RuntimeException"), .declares (Bundle.initS "java/lang/Exception"), .declares (Bundle.initS Bundle.tN)]) (fun w h => hts w ((by decide +kernel : ∀ w ∈ (vx_atS RX0 127 RIO ["java/lang/RuntimeException", "java/lang/Exception"]).filter goodWord, w ∈ wsX0_end) w h)) (by decide +kernel) (vx_c (va_Nw.use (A := args) rfl hZ.2.1.2.2.1) (vx_c (va_Nw.use (A := args) rfl hZ.2.2.1.1) (vx_c (va_Nw.use (A := args) rfl hZ.2.2.1.2.1) (vx_c (va_Nw.use (A := args) rfl hZ.2.2.1.2.2) vx_n))))
  have f120 := hts (.fieldLink RX0 120 "EquityRelease" "lifeCount" "I") (by decide +kernel)
  have f17 := hts (.fieldLink RX0 17 "EquityRelease" "endDays" "[I") (by decide +kernel)
  have f53 := hts (.fieldLink RX0 53 "EquityRelease" "today" "I") (by decide +kernel)
  have a67 : ∀ w ∈ vx_atS RX0 67 RIS ["java/lang/RuntimeException", "java/lang/Exception"], w.before args s = true := vx_hat (B := [.castable RIS RIS, .declares (Bundle.initS "java/lang/RuntimeException"), .declares (Bundle.initS "java/lang/Exception"), .declares (Bundle.initS Bundle.tN)]) (fun w h => hts w ((by decide +kernel : ∀ w ∈ (vx_atS RX0 67 RIS ["java/lang/RuntimeException", "java/lang/Exception"]).filter goodWord, w ∈ wsX0_end) w h)) (by decide +kernel) (vx_c (va_Nw.use (A := args) rfl hZ.2.1.2.1) (vx_c (va_Nw.use (A := args) rfl hZ.2.2.1.1) (vx_c (va_Nw.use (A := args) rfl hZ.2.2.1.2.1) (vx_c (va_Nw.use (A := args) rfl hZ.2.2.1.2.2) vx_n))))
  have hl := lv_entry ([.ref h0, .int p0]) (n := 2) (Nat.le_of_ble_eq_true rfl)
  have hEe : entryFrame m args 2 = entryFrame m ([.ref h0, .int p0] : List Value).toArray 2 := by rw [hargs]
  rw [hEe, lg_entry_eq]
  generalize (lg_sl ([.ref h0, .int p0]) ++ List.replicate (2 - (lg_sl ([.ref h0, .int p0])).length) Slot.unset).toArray = ls at hl ⊢
  have hl : lv_has ls 2 [(0, .ref h0), (1, .int p0)] := hl
  refine lv_iload_n hx hb dX0_end_0 rfl (lv_at hl 1 rfl) ?_
  refine nk_zlt (tgt := 12) hx hb hz dX0_end_1 (by decide) (fun c1 => ?_) (fun c1 => ?_)
  · exact vx_throwS (own := RX0) (cls := RIO) (names := ["java/lang/RuntimeException", "java/lang/Exception"]) (ik := 123) (is := 125) (ic := 127) (A := va_A (wX h0 h1 h2 h3 h4 h5 h6 h7 h8 h9 cI cJ d r lc bg w rm k pn fa e1 am dd rt b pd pt tp) s.heap.size) hx hb hfl hown (by decide +kernel) (by decide +kernel) (hts (.classLink RX0 123 RIO) (by decide +kernel)) (hts (.initialized RIO) (by decide +kernel)) hr125 a127 (by decide +kernel) hZ.1.1 hZ.1.2 hSz (hl.1.trans hml.symm) dX0_end_12 dX0_end_15 dX0_end_16 dX0_end_18 dX0_end_21 (fun x h => (htab x h).elim) (Nat.le_of_ble_eq_true rfl) (Nat.le_of_ble_eq_true rfl) (Nat.le_of_ble_eq_true rfl) (Nat.le_of_ble_eq_true rfl) hlocks (fun t hvm hsz9 hk9 => ⟨(), trivial, Or.inl ⟨rfl, by omega⟩, hsz9, fun q h1 _ => hk9 q h1⟩) (fun z h => nomatch h) (Nat.le_of_ble_eq_true rfl) (Nat.le_of_ble_eq_true rfl)
  · refine lv_iload_n hx hb dX0_end_4 rfl (lv_at hl 1 rfl) ?_
    refine lv_aload_n hx hb dX0_end_5 rfl (lv_at hl 0 rfl) ?_
    refine va_get (D := D) (ci := 0) (v := .int (nI lc)) (C := RX0) (T := TX0) (N := 17) hx hb hts hin hown hK hP 0 rfl rfl 2 (by decide) f120 (fun _ h9 => h9) rfl dX0_end_6 ?_
    refine nk_zcmp_lt (tgt := 22) hx hb hz (nI_toInt (by omega)) dX0_end_9 (by decide) (fun c9 => ?_) (fun c9 => ?_)
    · obtain ⟨rfl, ha9⟩ := hpa (by omega)
      have za : z = (a9 : Int) := by rw [← hz]; exact nI_toInt (by omega)
      refine lv_aload_n hx hb dX0_end_22 rfl (lv_at hl 0 rfl) ?_
      refine va_get (D := D) (ci := 0) (v := .ref h2) (C := RX0) (T := TX0) (N := 17) hx hb hts hin hown hK hP 0 rfl rfl 4 (by decide) f17 (fun _ h9 => h9) rfl dX0_end_23 ?_
      refine lv_iload_n hx hb dX0_end_26 rfl (lv_at hl 1 rfl) ?_
      refine nk_eald hx hb hK hP 2 0 rfl rfl (by omega) (by decide) dX0_end_27 ?_
      refine lv_iconst (v := -1) hx hb dX0_end_28 (by decide) ?_
      have he1 := he a9 (by omega)
      refine nk_ecmp_eq (tgt := 42) hx hb (by omega) dX0_end_29 (by decide) (fun c29 => ?_) (fun c29 => ?_)
      · refine lv_aload_n hx hb dX0_end_42 rfl (lv_at hl 0 rfl) ?_
        refine va_get (D := D) (ci := 0) (v := .ref h2) (C := RX0) (T := TX0) (N := 17) hx hb hts hin hown hK hP 0 rfl rfl 4 (by decide) f17 (fun _ h9 => h9) rfl dX0_end_43 ?_
        refine lv_iload_n hx hb dX0_end_46 rfl (lv_at hl 1 rfl) ?_
        refine lv_aload_n hx hb dX0_end_47 rfl (lv_at hl 0 rfl) ?_
        refine va_get (D := D) (ci := 0) (v := .int (nI d)) (C := RX0) (T := TX0) (N := 17) hx hb hts hin hown hK hP 0 rfl rfl 0 (by decide) f53 (fun _ h9 => h9) rfl dX0_end_48 ?_
        refine nk_east hx hb hK hP hD hS 2 0 rfl rfl nk_e2.symm (by omega) (by decide) dX0_end_51 (fun H locs hP hD hS => ?_)
        have hP : va_P D vwCl (wX h0 h1 h2 h3 h4 h5 h6 h7 h8 h9 cI cJ d r lc bg w rm k pn fa (va_up e1 a9 (d + 1)) am dd rt b pd pt tp) H := hP
        have hD : va_D A (wX h0 h1 h2 h3 h4 h5 h6 h7 h8 h9 cI cJ d r lc bg w rm k pn fa (va_up e1 a9 (d + 1)) am dd rt b pd pt tp) := hD
        refine lv_aload_n hx hb dX0_end_52 rfl (lv_at hl 0 rfl) ?_
        refine nk_rd (W.runV (As := []) (rest := []) ⟨hx, hb, hml, hown, hts⟩ (c_X0_livesLeft l D h0 h1 h2 h3 h4 h5 h6 h7 h8 h9 cI cJ d r lc bg w rm k pn fa (va_up e1 a9 (d + 1)) am dd rt b pd pt tp hlc (fun j hj => by show (if j = a9 then d + 1 else e1 j) ≤ 15001; split; omega; exact he j hj)) (cwV 0 hts gX0_end_X0_livesLeft rfl rfl rfl (by decide +kernel) ⟨Nat.le_of_ble_eq_true rfl, Nat.le_of_ble_eq_true rfl⟩) ⟨nk_Pr.blind, va_recv hK hP (ci := 0) (q0 := 0) rfl rfl, fun U hU hW => ⟨rfl, by rw [hU]; exact hP, va_K.moved hW.alike hK⟩⟩ rfl rfl hl.1 rfl (lv_room (Nat.le_of_ble_eq_true rfl)) dX0_end_53 ⟨Nat.zero_le _, Nat.zero_le _⟩) ?_
        refine W.eq (g2 := F0 m 56 ls [.int (nI (alive (va_up e1 a9 (d + 1)) lc))]) rfl ?_
        refine vx_ret ?_
        refine W.widen (k := 1) (n := 6) (by decide) (by decide) ?_
        exact W.iret (v := (nI (alive (va_up e1 a9 (d + 1)) lc))) hx hb hr (fun t ht hW => ⟨⟨(nI (alive (va_up e1 a9 (d + 1)) lc)), wX h0 h1 h2 h3 h4 h5 h6 h7 h8 h9 cI cJ d r lc bg w rm k pn fa (va_up e1 a9 (d + 1)) am dd rt b pd pt tp, rfl, ⟨by omega, c29, rfl, rfl⟩, by rw [ht]; exact hP, va_K.moved hW.alike hK, hD⟩, hS.F ht⟩) hS.2.2 dX0_end_56
      · exact vx_throwS (own := RX0) (cls := RIS) (names := ["java/lang/RuntimeException", "java/lang/Exception"]) (ik := 63) (is := 128) (ic := 67) (A := va_A (wX h0 h1 h2 h3 h4 h5 h6 h7 h8 h9 cI cJ d r lc bg w rm k pn fa e1 am dd rt b pd pt tp) s.heap.size) hx hb hfl hown (by decide +kernel) (by decide +kernel) (hts (.classLink RX0 63 RIS) (by decide +kernel)) (hts (.initialized RIS) (by decide +kernel)) hr128 a67 (by decide +kernel) hZ.1.1 hZ.1.2 hSz (hl.1.trans hml.symm) dX0_end_32 dX0_end_35 dX0_end_36 dX0_end_38 dX0_end_41 (fun x h => (htab x h).elim) (Nat.le_of_ble_eq_true rfl) (Nat.le_of_ble_eq_true rfl) (Nat.le_of_ble_eq_true rfl) (Nat.le_of_ble_eq_true rfl) hlocks (fun t hvm hsz9 hk9 => ⟨(), trivial, Or.inr ⟨rfl, by omega, c29⟩, hsz9, fun q h1 _ => hk9 q h1⟩) (fun z h => nomatch h) (Nat.le_of_ble_eq_true rfl) (Nat.le_of_ble_eq_true rfl)
    · exact vx_throwS (own := RX0) (cls := RIO) (names := ["java/lang/RuntimeException", "java/lang/Exception"]) (ik := 123) (is := 125) (ic := 127) (A := va_A (wX h0 h1 h2 h3 h4 h5 h6 h7 h8 h9 cI cJ d r lc bg w rm k pn fa e1 am dd rt b pd pt tp) s.heap.size) hx hb hfl hown (by decide +kernel) (by decide +kernel) (hts (.classLink RX0 123 RIO) (by decide +kernel)) (hts (.initialized RIO) (by decide +kernel)) hr125 a127 (by decide +kernel) hZ.1.1 hZ.1.2 hSz (hl.1.trans hml.symm) dX0_end_12 dX0_end_15 dX0_end_16 dX0_end_18 dX0_end_21 (fun x h => (htab x h).elim) (Nat.le_of_ble_eq_true rfl) (Nat.le_of_ble_eq_true rfl) (Nat.le_of_ble_eq_true rfl) (Nat.le_of_ble_eq_true rfl) hlocks (fun t hvm hsz9 hk9 => ⟨(), trivial, Or.inl ⟨rfl, by omega⟩, hsz9, fun q h1 _ => hk9 q h1⟩) (fun z h => nomatch h) (Nat.le_of_ble_eq_true rfl) (Nat.le_of_ble_eq_true rfl)
set_option maxHeartbeats 4000000 in
set_option maxRecDepth 100000 in
theorem c_X0_value (l : Launch) (hfl : l.stackTraces = false) (D : va_G) (h0 h1 h2 h3 h4 h5 h6 h7 h8 h9 : Nat) (cI cJ : ClassId) (d r lc bg w rm k pn : Nat) (fa e1 am dd rt b pd pt tp : Nat → Nat) (sz : Nat) (p0 : Int32) (z : Int) (a9 : Nat)  (hz : p0.toInt = z) (hpa : 0 ≤ z → p0 = nI a9 ∧ a9 < 2147483648) (hlc : lc ≤ 2) : vx_Met l yX0_value wsX0_value { frames := 7, cells := 1, slots := 6, locals := 114 } (nk_Px D (wX h0 h1 h2 h3 h4 h5 h6 h7 h8 h9 cI cJ d r lc bg w rm k pn fa e1 am dd rt b pd pt tp) (tX cI cJ) sz [.ref h0, .int p0]) (va_Qi (fun r9 w1 => (0 ≤ z ∧ z ≤ 10000000) ∧ 0 < lc ∧ r9 = nI w ∧ w1 = wX h0 h1 h2 h3 h4 h5 h6 h7 h8 h9 cI cJ d r lc bg a9 rm k pn fa e1 am dd rt b pd pt tp) (fun w1 t => nk_At D (tX cI cJ) (va_A (wX h0 h1 h2 h3 h4 h5 h6 h7 h8 h9 cI cJ d r lc bg w rm k pn fa e1 am dd rt b pd pt tp) sz) w1 t) (va_A (wX h0 h1 h2 h3 h4 h5 h6 h7 h8 h9 cI cJ d r lc bg w rm k pn fa e1 am dd rt b pd pt tp) sz)) (nk_XC (fun E => (E = RIA ∧ ¬ (0 ≤ z ∧ z ≤ 10000000)) ∨ (E = RIS ∧ (0 ≤ z ∧ z ≤ 10000000) ∧ ¬ 0 < lc)) sz) 1 6 (va_A (wX h0 h1 h2 h3 h4 h5 h6 h7 h8 h9 cI cJ d r lc bg w rm k pn fa e1 am dd rt b pd pt tp) sz) := by
  refine vx_ofW (cc := cX0_value) (maxL := 3) (ret := (some .int)) (by decide) rfl ?_
  intro p e s m args below meth c s₁ B hml htab hv
  obtain ⟨hargs, hsz, hP, hK, hD0, hZ⟩ := hv
  have hx := B.exec
  have hb := B.bytes
  have hr := B.returns
  have hts := atoms_spec (ws := wsX0_value) B.pre
  have hown : s.vm.findClass RX0 = some m.cls := findClass_of_methodNamed B.named
  have hlocks := B.notSynchronized
  subst hsz
  have hin : ∀ w ∈ wsX00, w ∈ wsX0_value := by decide +kernel
  have hD := hD0.self (sz := s.heap.size)
  generalize hAe : va_A (wX h0 h1 h2 h3 h4 h5 h6 h7 h8 h9 cI cJ d r lc bg w rm k pn fa e1 am dd rt b pd pt tp) s.heap.size = A at hD ⊢
  have hA : ∀ q : Nat, s.heap.size ≤ q → A q := fun q h => by rw [← hAe]; exact Or.inr h
  have hS : va_S A s.heap s.heap [] := va_S.rf
  have hSz : va_S (va_A (wX h0 h1 h2 h3 h4 h5 h6 h7 h8 h9 cI cJ d r lc bg w rm k pn fa e1 am dd rt b pd pt tp) s.heap.size) s.heap s.heap [] := va_S.rf
  obtain ⟨fx, hr65, hr92, hr101, hr111, hr125, hr128, hr134, hr136, hr145, hr167, hr170⟩ := hZ.2.2.2
  have k42 : (Cond.constant RX0 42 (nI 10000000)).before args s = true := by
    rw [show (nI 10000000 : Int32) = 10000000 from by decide +kernel]
    exact hts (.constant RX0 42 (10000000)) (by decide +kernel)
  have f77 := hts (.fieldLink RX0 77 "EquityRelease" "houseWorth" "I") (by decide +kernel)
  have a67 : ∀ w ∈ vx_atS RX0 67 RIS ["java/lang/RuntimeException", "java/lang/Exception"], w.before args s = true := vx_hat (B := [.castable RIS RIS, .declares (Bundle.initS "java/lang/RuntimeException"), .declares (Bundle.initS "java/lang/Exception"), .declares (Bundle.initS Bundle.tN)]) (fun w h => hts w ((by decide +kernel : ∀ w ∈ (vx_atS RX0 67 RIS ["java/lang/RuntimeException", "java/lang/Exception"]).filter goodWord, w ∈ wsX0_value) w h)) (by decide +kernel) (vx_c (va_Nw.use (A := args) rfl hZ.2.1.2.1) (vx_c (va_Nw.use (A := args) rfl hZ.2.2.1.1) (vx_c (va_Nw.use (A := args) rfl hZ.2.2.1.2.1) (vx_c (va_Nw.use (A := args) rfl hZ.2.2.1.2.2) vx_n))))
  have hl := lv_entry ([.ref h0, .int p0]) (n := 3) (Nat.le_of_ble_eq_true rfl)
  have hEe : entryFrame m args 3 = entryFrame m ([.ref h0, .int p0] : List Value).toArray 3 := by rw [hargs]
  rw [hEe, lg_entry_eq]
  generalize (lg_sl ([.ref h0, .int p0]) ++ List.replicate (3 - (lg_sl ([.ref h0, .int p0])).length) Slot.unset).toArray = ls at hl ⊢
  have hl : lv_has ls 3 [(0, .ref h0), (1, .int p0)] := hl
  refine lv_iload_n hx hb dX0_value_0 rfl (lv_at hl 1 rfl) ?_
  refine lv_iconst (v := nI 0) hx hb dX0_value_1 (by decide +kernel) ?_
  refine lv_ldc (v := nI 10000000) hx hb hown k42 dX0_value_2 ?_
  refine nk_rdx (vx_runS (As := [.int p0, .int (nI 0), .int (nI 10000000)]) (rest := []) ⟨hx, hb, hml, hown, hts⟩ (c_X0_requireWithin l hfl s.heap.size p0 z 0 10000000 hz (by decide) (by decide)) (va_cwS 3 hts gX0_value_X0_requireWithin rfl rfl rfl (by decide +kernel) ⟨Nat.le_of_ble_eq_true rfl, Nat.le_of_ble_eq_true rfl⟩) ⟨nk_Ps.blind, fun U hU hW => ⟨rfl, by rw [hU], by rw [hU]; exact nk_Z.go hZ hW (fun q h => Or.inr h)⟩⟩ rfl rfl hl.1 rfl (lv_room (Nat.le_of_ble_eq_true rfl)) dX0_value_4 ⟨Nat.le_of_ble_eq_true rfl, Nat.le_of_ble_eq_true rfl⟩) hS hA (fun E ce q9 H1 hE hz hk9 hS1 hce hcv hcl => ?_) (fun hok4 => ?_)
  · exact vx_out (fun x h => (htab x h).elim) hlocks hce hcv hcl (fun t ht hW => ⟨(), trivial, Or.inl ⟨hE.1, by have := hE.2; omega⟩, by rw [ht]; exact hz, fun q h1 _ => by rw [ht]; exact hk9 q h1⟩) (fun z h => nomatch h) (Nat.le_of_ble_eq_true rfl) (Nat.le_of_ble_eq_true rfl)
  refine W.eq (g2 := F0 m 7 ls []) rfl ?_
  obtain ⟨rfl, ha9⟩ := hpa (by omega)
  have za : z = (a9 : Int) := by rw [← hz]; exact nI_toInt (by omega)
  refine lv_aload_n hx hb dX0_value_7 rfl (lv_at hl 0 rfl) ?_
  refine nk_rd (W.runV (As := []) (rest := []) ⟨hx, hb, hml, hown, hts⟩ (c_X0_isBegun l D h0 h1 h2 h3 h4 h5 h6 h7 h8 h9 cI cJ d r lc bg w rm k pn fa e1 am dd rt b pd pt tp hlc) (cwV 0 hts gX0_value_X0_isBegun rfl rfl rfl (by decide +kernel) ⟨Nat.le_of_ble_eq_true rfl, Nat.le_of_ble_eq_true rfl⟩) ⟨nk_Pr.blind, va_recv hK hP (ci := 0) (q0 := 0) rfl rfl, fun U hU hW => ⟨rfl, by rw [hU]; exact hP, va_K.moved hW.alike hK⟩⟩ rfl rfl hl.1 rfl (lv_room (Nat.le_of_ble_eq_true rfl)) dX0_value_8 ⟨Nat.zero_le _, Nat.zero_le _⟩) ?_
  refine W.eq (g2 := F0 m 11 ls [.int (nI (if 0 < lc then 1 else 0))]) rfl ?_
  refine nk_bif_ne (tgt := 24) hx hb dX0_value_11 (by decide) (fun c11 => ?_) (fun c11 => ?_)
  · refine lv_aload_n hx hb dX0_value_24 rfl (lv_at hl 0 rfl) ?_
    refine va_get (D := D) (ci := 0) (v := .int (nI w)) (C := RX0) (T := TX0) (N := 17) hx hb hts hin hown hK hP 0 rfl rfl 6 (by decide) f77 (fun _ h9 => h9) rfl dX0_value_25 ?_
    refine lv_istore_n (lv' := [(2, .int (nI w)), (0, .ref h0), (1, .int (nI a9))]) hx hb dX0_value_28 rfl hl (by decide) rfl (fun ls hl => ?_)
    refine lv_aload_n hx hb dX0_value_29 rfl (lv_at hl 1 rfl) ?_
    refine lv_iload_n hx hb dX0_value_30 rfl (lv_at hl 2 rfl) ?_
    refine va_put (D := D) (ci := 0) (v := .int (nI a9)) (ty := .int) (C := RX0) (T := TX0) (N := 17) hx hb hts hin tyX0 tyX0_ok nmX0 hown hK hP hD hS 0 rfl rfl 6 (by decide) f77 (fun _ h9 => h9) rfl (by decide +kernel) rfl rfl (Nat.le_of_ble_eq_true rfl) dX0_value_31 (fun H locs hP hD hS => ?_)
    have hP : va_P D vwCl (wX h0 h1 h2 h3 h4 h5 h6 h7 h8 h9 cI cJ d r lc bg a9 rm k pn fa e1 am dd rt b pd pt tp) H := hP
    have hD : va_D A (wX h0 h1 h2 h3 h4 h5 h6 h7 h8 h9 cI cJ d r lc bg a9 rm k pn fa e1 am dd rt b pd pt tp) := hD
    refine lv_iload_n hx hb dX0_value_34 rfl (lv_at hl 0 rfl) ?_
    refine vx_ret ?_
    refine W.widen (k := 1) (n := 6) (by decide) (by decide) ?_
    exact W.iret (v := (nI w)) hx hb hr (fun t ht hW => ⟨⟨(nI w), wX h0 h1 h2 h3 h4 h5 h6 h7 h8 h9 cI cJ d r lc bg a9 rm k pn fa e1 am dd rt b pd pt tp, rfl, ⟨by omega, c11, rfl, rfl⟩, by rw [ht]; exact hP, va_K.moved hW.alike hK, hD⟩, hS.F ht⟩) hS.2.2 dX0_value_35
  · exact vx_throwS (own := RX0) (cls := RIS) (names := ["java/lang/RuntimeException", "java/lang/Exception"]) (ik := 63) (is := 134) (ic := 67) (A := va_A (wX h0 h1 h2 h3 h4 h5 h6 h7 h8 h9 cI cJ d r lc bg w rm k pn fa e1 am dd rt b pd pt tp) s.heap.size) hx hb hfl hown (by decide +kernel) (by decide +kernel) (hts (.classLink RX0 63 RIS) (by decide +kernel)) (hts (.initialized RIS) (by decide +kernel)) hr134 a67 (by decide +kernel) hZ.1.1 hZ.1.2 hSz (hl.1.trans hml.symm) dX0_value_14 dX0_value_17 dX0_value_18 dX0_value_20 dX0_value_23 (fun x h => (htab x h).elim) (Nat.le_of_ble_eq_true rfl) (Nat.le_of_ble_eq_true rfl) (Nat.le_of_ble_eq_true rfl) (Nat.le_of_ble_eq_true rfl) hlocks (fun t hvm hsz9 hk9 => ⟨(), trivial, Or.inr ⟨rfl, by omega, c11⟩, hsz9, fun q h1 _ => hk9 q h1⟩) (fun z h => nomatch h) (Nat.le_of_ble_eq_true rfl) (Nat.le_of_ble_eq_true rfl)
set_option maxHeartbeats 4000000 in
set_option maxRecDepth 100000 in
theorem c_X0_move (l : Launch) (hfl : l.stackTraces = false) (D : va_G) (h0 h1 h2 h3 h4 h5 h6 h7 h8 h9 : Nat) (cI cJ : ClassId) (d r lc bg w rm k pn : Nat) (fa e1 am dd rt b pd pt tp : Nat → Nat) (sz : Nat) (p0 : Int32) (z : Int) (a9 : Nat)  (hz : p0.toInt = z) (hpa : 0 ≤ z → p0 = nI a9 ∧ a9 < 2147483648) (hlc : lc ≤ 2) (he : ∀ j, j < lc → e1 j ≤ 15001) (hfa : ∀ j, j < lc → 55 ≤ fa j ∧ fa j ≤ 95) (hd : d ≤ 15000) (hk : k ≤ 20) (hpn : pn ≤ 40) (hbs : sm b k < 1000000000000000000) (hb9 : ∀ j, j < k → b j < 4611686018427387904) : vx_Met l yX0_move wsX0_move { frames := 7, cells := 1, slots := 6, locals := 114 } (nk_Px D (wX h0 h1 h2 h3 h4 h5 h6 h7 h8 h9 cI cJ d r lc bg w rm k pn fa e1 am dd rt b pd pt tp) (tX cI cJ) sz [.ref h0, .int p0]) (va_Ql (fun r9 w1 => (0 ≤ z ∧ z ≤ 10000000) ∧ (0 < lc ∧ 0 < alive e1 lc) ∧ pn < 40 ∧ r9 = lN (ceilA (sm b k) - gL a9 (lstA fa e1 lc - 1 + d / 365)) ∧ ((ceilA (sm b k) ≤ gL a9 (lstA fa e1 lc - 1 + d / 365) ∧ w1 = wX h0 h1 h2 h3 h4 h5 h6 h7 h8 h9 cI cJ d r lc bg a9 (gL a9 (lstA fa e1 lc - 1 + d / 365) - ceilA (sm b k)) k pn fa e1 am dd rt b pd pt tp) ∨ (gL a9 (lstA fa e1 lc - 1 + d / 365) < ceilA (sm b k) ∧ w1 = wX h0 h1 h2 h3 h4 h5 h6 h7 h8 h9 cI cJ d r lc bg a9 (gL a9 (lstA fa e1 lc - 1 + d / 365) - ceilA (sm (tkB b ((ceilA (sm b k) - gL a9 (lstA fa e1 lc - 1 + d / 365)) * 10000) k) k)) k (pn + 1) fa e1 am dd rt (tkB b ((ceilA (sm b k) - gL a9 (lstA fa e1 lc - 1 + d / 365)) * 10000) k) (va_up pd pn d) (va_up pt pn 0) (tkT tp b ((ceilA (sm b k) - gL a9 (lstA fa e1 lc - 1 + d / 365)) * 10000) pn k)))) (fun w1 t => nk_At D (tX cI cJ) (va_A (wX h0 h1 h2 h3 h4 h5 h6 h7 h8 h9 cI cJ d r lc bg w rm k pn fa e1 am dd rt b pd pt tp) sz) w1 t) (va_A (wX h0 h1 h2 h3 h4 h5 h6 h7 h8 h9 cI cJ d r lc bg w rm k pn fa e1 am dd rt b pd pt tp) sz)) (nk_XC (fun E => (E = RIA ∧ ¬ (0 ≤ z ∧ z ≤ 10000000)) ∨ (E = RIS ∧ (0 ≤ z ∧ z ≤ 10000000) ∧ ¬ ((0 < lc ∧ 0 < alive e1 lc) ∧ pn < 40))) sz) 1 6 (va_A (wX h0 h1 h2 h3 h4 h5 h6 h7 h8 h9 cI cJ d r lc bg w rm k pn fa e1 am dd rt b pd pt tp) sz) := by
  refine vx_ofW (cc := cX0_move) (maxL := 5) (ret := (some .long)) (by decide) rfl ?_
  intro p e s m args below meth c s₁ B hml htab hv
  obtain ⟨hargs, hsz, hP, hK, hD0, hZ⟩ := hv
  have hx := B.exec
  have hb := B.bytes
  have hr := B.returns
  have hts := atoms_spec (ws := wsX0_move) B.pre
  have hown : s.vm.findClass RX0 = some m.cls := findClass_of_methodNamed B.named
  have hlocks := B.notSynchronized
  subst hsz
  have hin : ∀ w ∈ wsX00, w ∈ wsX0_move := by decide +kernel
  have hD := hD0.self (sz := s.heap.size)
  generalize hAe : va_A (wX h0 h1 h2 h3 h4 h5 h6 h7 h8 h9 cI cJ d r lc bg w rm k pn fa e1 am dd rt b pd pt tp) s.heap.size = A at hD ⊢
  have hA : ∀ q : Nat, s.heap.size ≤ q → A q := fun q h => by rw [← hAe]; exact Or.inr h
  have hS : va_S A s.heap s.heap [] := va_S.rf
  have hSz : va_S (va_A (wX h0 h1 h2 h3 h4 h5 h6 h7 h8 h9 cI cJ d r lc bg w rm k pn fa e1 am dd rt b pd pt tp) s.heap.size) s.heap s.heap [] := va_S.rf
  obtain ⟨fx, hr65, hr92, hr101, hr111, hr125, hr128, hr134, hr136, hr145, hr167, hr170⟩ := hZ.2.2.2
  have k42 : (Cond.constant RX0 42 (nI 10000000)).before args s = true := by
    rw [show (nI 10000000 : Int32) = 10000000 from by decide +kernel]
    exact hts (.constant RX0 42 (10000000)) (by decide +kernel)
  have f98 := hts (.fieldLink RX0 98 "EquityRelease" "paymentCount" "I") (by decide +kernel)
  have f77 := hts (.fieldLink RX0 77 "EquityRelease" "houseWorth" "I") (by decide +kernel)
  have f80 := hts (.fieldLink RX0 80 "EquityRelease" "roomLeft" "I") (by decide +kernel)
  have a67 : ∀ w ∈ vx_atS RX0 67 RIS ["java/lang/RuntimeException", "java/lang/Exception"], w.before args s = true := vx_hat (B := [.castable RIS RIS, .declares (Bundle.initS "java/lang/RuntimeException"), .declares (Bundle.initS "java/lang/Exception"), .declares (Bundle.initS Bundle.tN)]) (fun w h => hts w ((by decide +kernel : ∀ w ∈ (vx_atS RX0 67 RIS ["java/lang/RuntimeException", "java/lang/Exception"]).filter goodWord, w ∈ wsX0_move) w h)) (by decide +kernel) (vx_c (va_Nw.use (A := args) rfl hZ.2.1.2.1) (vx_c (va_Nw.use (A := args) rfl hZ.2.2.1.1) (vx_c (va_Nw.use (A := args) rfl hZ.2.2.1.2.1) (vx_c (va_Nw.use (A := args) rfl hZ.2.2.1.2.2) vx_n))))
  have hl := lv_entry ([.ref h0, .int p0]) (n := 5) (Nat.le_of_ble_eq_true rfl)
  have hEe : entryFrame m args 5 = entryFrame m ([.ref h0, .int p0] : List Value).toArray 5 := by rw [hargs]
  rw [hEe, lg_entry_eq]
  generalize (lg_sl ([.ref h0, .int p0]) ++ List.replicate (5 - (lg_sl ([.ref h0, .int p0])).length) Slot.unset).toArray = ls at hl ⊢
  have hl : lv_has ls 5 [(0, .ref h0), (1, .int p0)] := hl
  refine lv_iload_n hx hb dX0_move_0 rfl (lv_at hl 1 rfl) ?_
  refine lv_iconst (v := nI 0) hx hb dX0_move_1 (by decide +kernel) ?_
  refine lv_ldc (v := nI 10000000) hx hb hown k42 dX0_move_2 ?_
  refine nk_rdx (vx_runS (As := [.int p0, .int (nI 0), .int (nI 10000000)]) (rest := []) ⟨hx, hb, hml, hown, hts⟩ (c_X0_requireWithin l hfl s.heap.size p0 z 0 10000000 hz (by decide) (by decide)) (va_cwS 3 hts gX0_move_X0_requireWithin rfl rfl rfl (by decide +kernel) ⟨Nat.le_of_ble_eq_true rfl, Nat.le_of_ble_eq_true rfl⟩) ⟨nk_Ps.blind, fun U hU hW => ⟨rfl, by rw [hU], by rw [hU]; exact nk_Z.go hZ hW (fun q h => Or.inr h)⟩⟩ rfl rfl hl.1 rfl (lv_room (Nat.le_of_ble_eq_true rfl)) dX0_move_4 ⟨Nat.le_of_ble_eq_true rfl, Nat.le_of_ble_eq_true rfl⟩) hS hA (fun E ce q9 H1 hE hz hk9 hS1 hce hcv hcl => ?_) (fun hok4 => ?_)
  · exact vx_out (fun x h => (htab x h).elim) hlocks hce hcv hcl (fun t ht hW => ⟨(), trivial, Or.inl ⟨hE.1, by have := hE.2; omega⟩, by rw [ht]; exact hz, fun q h1 _ => by rw [ht]; exact hk9 q h1⟩) (fun z h => nomatch h) (Nat.le_of_ble_eq_true rfl) (Nat.le_of_ble_eq_true rfl)
  refine W.eq (g2 := F0 m 7 ls []) rfl ?_
  obtain ⟨rfl, ha9⟩ := hpa (by omega)
  have za : z = (a9 : Int) := by rw [← hz]; exact nI_toInt (by omega)
  refine lv_aload_n hx hb dX0_move_7 rfl (lv_at hl 0 rfl) ?_
  refine nk_rdx (vx_runV (As := []) (rest := []) ⟨hx, hb, hml, hown, hts⟩ (c_X0_requireRunning l hfl D h0 h1 h2 h3 h4 h5 h6 h7 h8 h9 cI cJ d r lc bg w rm k pn fa e1 am dd rt b pd pt tp s.heap.size hlc he) (cwV 0 hts gX0_move_X0_requireRunning rfl rfl rfl (by decide +kernel) ⟨Nat.le_of_ble_eq_true rfl, Nat.le_of_ble_eq_true rfl⟩) ⟨nk_Px.blind, va_recv hK hP (ci := 0) (q0 := 0) rfl rfl, fun U hU hW => ⟨rfl, by rw [hU], by rw [hU]; exact hP, va_K.moved hW.alike hK, hD.weaken (fun _ _ _ _ => trivial), by rw [hU]; exact nk_Z.go hZ hW (fun _ h => h)⟩⟩ rfl rfl hl.1 rfl (lv_room (Nat.le_of_ble_eq_true rfl)) dX0_move_8 ⟨Nat.le_of_ble_eq_true rfl, Nat.le_of_ble_eq_true rfl⟩) hS hA (fun E ce q9 H1 hE hz hk9 hS1 hce hcv hcl => ?_) (fun hok8 => ?_)
  · exact vx_out (fun x h => (htab x h).elim) hlocks hce hcv hcl (fun t ht hW => ⟨(), trivial, Or.inr ⟨hE.1, by omega, fun q => hE.2 q.1⟩, by rw [ht]; exact hz, fun q h1 _ => by rw [ht]; exact hk9 q h1⟩) (fun z h => nomatch h) (Nat.le_of_ble_eq_true rfl) (Nat.le_of_ble_eq_true rfl)
  refine W.eq (g2 := F0 m 11 ls []) rfl ?_
  refine lv_aload_n hx hb dX0_move_11 rfl (lv_at hl 0 rfl) ?_
  refine va_get (D := D) (ci := 0) (v := .int (nI pn)) (C := RX0) (T := TX0) (N := 17) hx hb hts hin hown hK hP 0 rfl rfl 13 (by decide) f98 (fun _ h9 => h9) rfl dX0_move_12 ?_
  refine lv_bipush (v := nI 40) hx hb dX0_move_15 (by decide +kernel) ?_
  refine nk_icmp_lt (tgt := 30) hx hb (by omega) (by omega) dX0_move_17 (by decide) (fun c17 => ?_) (fun c17 => ?_)
  · refine lv_iload_n hx hb dX0_move_30 rfl (lv_at hl 1 rfl) ?_
    refine lv_aload_n hx hb dX0_move_31 rfl (lv_at hl 0 rfl) ?_
    have hl2 := lstA_pos (a := fa) lc hok8.2
    have hl3 := lstA_le (f := e1) lc hfa
    have hl4 := lstA_ge (f := e1) lc hfa hl2
    have hg9 : gL a9 (lstA fa e1 lc - 1 + d / 365) ≤ 5500000 := gL_le (by omega)
    have hc9 : ceilA (sm b k) < 200000000000000 := by unfold ceilA; omega
    refine nk_rd (W.runV (As := []) (rest := [.int (nI a9)]) ⟨hx, hb, hml, hown, hts⟩ (c_X0_age l D h0 h1 h2 h3 h4 h5 h6 h7 h8 h9 cI cJ d r lc bg w rm k pn fa e1 am dd rt b pd pt tp hlc he hfa hd) (cwV 0 hts gX0_move_X0_age rfl rfl rfl (by decide +kernel) ⟨Nat.le_of_ble_eq_true rfl, Nat.le_of_ble_eq_true rfl⟩) ⟨nk_Pr.blind, va_recv hK hP (ci := 0) (q0 := 0) rfl rfl, fun U hU hW => ⟨rfl, by rw [hU]; exact hP, va_K.moved hW.alike hK⟩⟩ rfl rfl hl.1 rfl (lv_room (Nat.le_of_ble_eq_true rfl)) dX0_move_32 ⟨Nat.zero_le _, Nat.zero_le _⟩) ?_
    refine W.eq (g2 := F0 m 35 ls [.int (nI (agE fa e1 lc (d / 365)) - 1), .int (nI a9)]) rfl ?_
    refine nk_topi (y := (nI (lstA fa e1 lc - 1 + d / 365))) (agE_r hl2).symm ?_
    refine nk_rd (W.runS (As := [.int (nI a9), .int (nI (lstA fa e1 lc - 1 + d / 365))]) (rest := []) ⟨hx, hb, hml, hown, hts⟩ (c_X0_greatestLoan l a9 (lstA fa e1 lc - 1 + d / 365) (by omega) (by omega) (by omega)) (va_cwS 2 hts gX0_move_X0_greatestLoan rfl rfl rfl (by decide +kernel) ⟨Nat.le_of_ble_eq_true rfl, Nat.le_of_ble_eq_true rfl⟩) ⟨nk_P0.blind, fun U hU hW => ⟨rfl, trivial⟩⟩ rfl rfl hl.1 rfl (lv_room (Nat.le_of_ble_eq_true rfl)) dX0_move_35 ⟨Nat.zero_le _, Nat.zero_le _⟩) ?_
    refine W.eq (g2 := F0 m 38 ls [.int (nI (gL a9 (lstA fa e1 lc - 1 + d / 365)))]) rfl ?_
    refine lv_istore_n (lv' := [(2, .int (nI (gL a9 (lstA fa e1 lc - 1 + d / 365)))), (0, .ref h0), (1, .int (nI a9))]) hx hb dX0_move_38 rfl hl (by decide) rfl (fun ls hl => ?_)
    refine lv_lconst (v := lN 0) hx hb dX0_move_39 (by decide +kernel) ?_
    refine lv_aload_n hx hb dX0_move_40 rfl (lv_at hl 1 rfl) ?_
    refine nk_rd (W.runV (As := []) (rest := [.long (lN 0)]) ⟨hx, hb, hml, hown, hts⟩ (c_X0_debt l D h0 h1 h2 h3 h4 h5 h6 h7 h8 h9 cI cJ d r lc bg w rm k pn fa e1 am dd rt b pd pt tp hk (by omega)) (cwV 0 hts gX0_move_X0_debt rfl rfl rfl (by decide +kernel) ⟨Nat.le_of_ble_eq_true rfl, Nat.le_of_ble_eq_true rfl⟩) ⟨nk_Pr.blind, va_recv hK hP (ci := 0) (q0 := 0) rfl rfl, fun U hU hW => ⟨rfl, by rw [hU]; exact hP, va_K.moved hW.alike hK⟩⟩ rfl rfl hl.1 rfl (lv_room (Nat.le_of_ble_eq_true rfl)) dX0_move_41 ⟨Nat.zero_le _, Nat.zero_le _⟩) ?_
    refine W.eq (g2 := F0 m 44 ls [.long (lN (ceilA (sm b k))), .long (lN 0)]) rfl ?_
    refine lv_iload_n hx hb dX0_move_44 rfl (lv_at hl 0 rfl) ?_
    refine nk_i2l hx hb (by omega) dX0_move_45 ?_
    refine lv_lsub hx hb dX0_move_46  ?_
    refine va_mmax_long hx hb (hml.trans hl.1.symm) hown (hts (.methodLink RX0 141 Lib.MathLoose.max_long.x) (by decide +kernel)) (hts (.static Lib.MathLoose.max_long.x) (by decide +kernel)) (hts (.initialized "java/lang/Math") (by decide +kernel)) (hts (.code Lib.MathLoose.max_long.x Lib.MathLoose.max_long.code 4 (some .long)) (by decide +kernel)) (Nat.le_of_ble_eq_true rfl) (Nat.le_of_ble_eq_true rfl) (Nat.zero_le _) (Nat.zero_le _) dX0_move_47 ?_
    refine nk_topl (y := (lN (ceilA (sm b k) - gL a9 (lstA fa e1 lc - 1 + d / 365)))) (nk_maxL0 (by omega) (by omega)) ?_
    refine lv_lstore_n (lv' := [(3, .long (lN (ceilA (sm b k) - gL a9 (lstA fa e1 lc - 1 + d / 365)))), (2, .int (nI (gL a9 (lstA fa e1 lc - 1 + d / 365)))), (0, .ref h0), (1, .int (nI a9))]) hx hb dX0_move_50 rfl hl (by decide) rfl (fun ls hl => ?_)
    refine lv_lload_n hx hb dX0_move_51 rfl (lv_at hl 0 rfl) ?_
    refine lv_lconst (v := lN 0) hx hb dX0_move_52 (by decide +kernel) ?_
    refine nk_lcmp_le (tgt := 63) hx hb (by omega) (by omega) dX0_move_53 dX0_move_54 (by decide) (fun c53 => ?_) (fun c53 => ?_)
    · refine lv_aload_n hx hb dX0_move_63 rfl (lv_at hl 2 rfl) ?_
      refine lv_iload_n hx hb dX0_move_64 rfl (lv_at hl 3 rfl) ?_
      refine va_put (D := D) (ci := 0) (v := .int (nI a9)) (ty := .int) (C := RX0) (T := TX0) (N := 17) hx hb hts hin tyX0 tyX0_ok nmX0 hown hK hP hD hS 0 rfl rfl 6 (by decide) f77 (fun _ h9 => h9) rfl (by decide +kernel) rfl rfl (Nat.le_of_ble_eq_true rfl) dX0_move_65 (fun H locs hP hD hS => ?_)
      have hP : va_P D vwCl (wX h0 h1 h2 h3 h4 h5 h6 h7 h8 h9 cI cJ d r lc bg a9 rm k pn fa e1 am dd rt b pd pt tp) H := hP
      have hD : va_D A (wX h0 h1 h2 h3 h4 h5 h6 h7 h8 h9 cI cJ d r lc bg a9 rm k pn fa e1 am dd rt b pd pt tp) := hD
      refine lv_aload_n hx hb dX0_move_68 rfl (lv_at hl 2 rfl) ?_
      refine lv_lconst (v := lN 0) hx hb dX0_move_69 (by decide +kernel) ?_
      refine lv_iload_n hx hb dX0_move_70 rfl (lv_at hl 1 rfl) ?_
      refine nk_i2l hx hb (by omega) dX0_move_71 ?_
      refine lv_aload_n hx hb dX0_move_72 rfl (lv_at hl 2 rfl) ?_
      refine nk_rd (W.runV (As := []) (rest := [.long (lN (gL a9 (lstA fa e1 lc - 1 + d / 365))), .long (lN 0), .ref h0]) ⟨hx, hb, hml, hown, hts⟩ (c_X0_debt l D h0 h1 h2 h3 h4 h5 h6 h7 h8 h9 cI cJ d r lc bg a9 rm k pn fa e1 am dd rt b pd pt tp hk (by omega)) (cwV 0 hts gX0_move_X0_debt rfl rfl rfl (by decide +kernel) ⟨Nat.le_of_ble_eq_true rfl, Nat.le_of_ble_eq_true rfl⟩) ⟨nk_Pr.blind, va_recv hK hP (ci := 0) (q0 := 0) rfl rfl, fun U hU hW => ⟨rfl, by rw [hU]; exact hP, va_K.moved hW.alike hK⟩⟩ rfl rfl hl.1 rfl (lv_room (Nat.le_of_ble_eq_true rfl)) dX0_move_73 ⟨Nat.zero_le _, Nat.zero_le _⟩) ?_
      refine W.eq (g2 := F0 m 76 ls [.long (lN (ceilA (sm b k))), .long (lN (gL a9 (lstA fa e1 lc - 1 + d / 365))), .long (lN 0), .ref h0]) rfl ?_
      refine lv_lsub hx hb dX0_move_76  ?_
      refine va_mmax_long hx hb (hml.trans hl.1.symm) hown (hts (.methodLink RX0 141 Lib.MathLoose.max_long.x) (by decide +kernel)) (hts (.static Lib.MathLoose.max_long.x) (by decide +kernel)) (hts (.initialized "java/lang/Math") (by decide +kernel)) (hts (.code Lib.MathLoose.max_long.x Lib.MathLoose.max_long.code 4 (some .long)) (by decide +kernel)) (Nat.le_of_ble_eq_true rfl) (Nat.le_of_ble_eq_true rfl) (Nat.zero_le _) (Nat.zero_le _) dX0_move_77 ?_
      refine nk_topl (y := (lN (gL a9 (lstA fa e1 lc - 1 + d / 365) - ceilA (sm b k)))) (nk_maxL0 (by omega) (by omega)) ?_
      refine nk_l2i hx hb dX0_move_80 ?_
      refine va_put (D := D) (ci := 0) (v := .int (nI (gL a9 (lstA fa e1 lc - 1 + d / 365) - ceilA (sm b k)))) (ty := .int) (C := RX0) (T := TX0) (N := 17) hx hb hts hin tyX0 tyX0_ok nmX0 hown hK hP hD hS 0 rfl rfl 7 (by decide) f80 (fun _ h9 => h9) rfl (by decide +kernel) rfl rfl (Nat.le_of_ble_eq_true rfl) dX0_move_81 (fun H locs hP hD hS => ?_)
      have hP : va_P D vwCl (wX h0 h1 h2 h3 h4 h5 h6 h7 h8 h9 cI cJ d r lc bg a9 (gL a9 (lstA fa e1 lc - 1 + d / 365) - ceilA (sm b k)) k pn fa e1 am dd rt b pd pt tp) H := hP
      have hD : va_D A (wX h0 h1 h2 h3 h4 h5 h6 h7 h8 h9 cI cJ d r lc bg a9 (gL a9 (lstA fa e1 lc - 1 + d / 365) - ceilA (sm b k)) k pn fa e1 am dd rt b pd pt tp) := hD
      refine lv_lload_n hx hb dX0_move_84 rfl (lv_at hl 0 rfl) ?_
      refine vx_ret ?_
      refine W.widen (k := 1) (n := 6) (by decide) (by decide) ?_
      exact W.lret (v := (lN (ceilA (sm b k) - gL a9 (lstA fa e1 lc - 1 + d / 365)))) hx hb hr (fun t ht hW => ⟨⟨(lN (ceilA (sm b k) - gL a9 (lstA fa e1 lc - 1 + d / 365))), wX h0 h1 h2 h3 h4 h5 h6 h7 h8 h9 cI cJ d r lc bg a9 (gL a9 (lstA fa e1 lc - 1 + d / 365) - ceilA (sm b k)) k pn fa e1 am dd rt b pd pt tp, rfl, ⟨by omega, hok8, by omega, rfl, Or.inl ⟨by omega, rfl⟩⟩, by rw [ht]; exact hP, va_K.moved hW.alike hK, hD⟩, hS.F ht⟩) hS.2.2 dX0_move_85
    · refine lv_aload_n hx hb dX0_move_57 rfl (lv_at hl 2 rfl) ?_
      refine lv_lload_n hx hb dX0_move_58 rfl (lv_at hl 0 rfl) ?_
      refine lv_iconst (v := nI 0) hx hb dX0_move_59 (by decide +kernel) ?_
      refine nk_vcall (wr := []) (va_runV (As := [.long (lN (ceilA (sm b k) - gL a9 (lstA fa e1 lc - 1 + d / 365))), .int (nI 0)]) (rest := []) ⟨hx, hb, hml, hown, hts⟩ (c_X0_takeBack l D h0 h1 h2 h3 h4 h5 h6 h7 h8 h9 cI cJ d r lc bg w rm k pn fa e1 am dd rt b pd pt tp s.heap.size (ceilA (sm b k) - gL a9 (lstA fa e1 lc - 1 + d / 365)) 0 (by omega) hk (by omega) hb9) (cwV 2 hts gX0_move_X0_takeBack rfl rfl rfl (by decide +kernel) ⟨Nat.le_of_ble_eq_true rfl, Nat.le_of_ble_eq_true rfl⟩) ⟨nk_Pw.blind, va_recv hK hP (ci := 0) (q0 := 0) rfl rfl, fun U hU hW => ⟨rfl, by rw [hU], by rw [hU]; exact hP, va_K.moved hW.alike hK, hD.weaken (fun _ _ _ _ => trivial)⟩⟩ rfl rfl hl.1 rfl (lv_room (Nat.le_of_ble_eq_true rfl)) dX0_move_60 ⟨Nat.zero_le _, Nat.zero_le _⟩) hP hD hS hA [0, 1, 2, 3, 4, 5, 6, 7, 8, 9] [] rfl rfl rfl (by decide) (fun w1 H locs hw hP hD hS hk9 => ?_)
      subst hw
      have hP : va_P D vwCl (wX h0 h1 h2 h3 h4 h5 h6 h7 h8 h9 cI cJ d r lc bg w rm k (pn + 1) fa e1 am dd rt (tkB b ((ceilA (sm b k) - gL a9 (lstA fa e1 lc - 1 + d / 365)) * 10000) k) (va_up pd pn d) (va_up pt pn 0) (tkT tp b ((ceilA (sm b k) - gL a9 (lstA fa e1 lc - 1 + d / 365)) * 10000) pn k)) H := hP
      have hD : va_D A (wX h0 h1 h2 h3 h4 h5 h6 h7 h8 h9 cI cJ d r lc bg w rm k (pn + 1) fa e1 am dd rt (tkB b ((ceilA (sm b k) - gL a9 (lstA fa e1 lc - 1 + d / 365)) * 10000) k) (va_up pd pn d) (va_up pt pn 0) (tkT tp b ((ceilA (sm b k) - gL a9 (lstA fa e1 lc - 1 + d / 365)) * 10000) pn k)) := hD
      refine lv_aload_n hx hb dX0_move_63 rfl (lv_at hl 2 rfl) ?_
      refine lv_iload_n hx hb dX0_move_64 rfl (lv_at hl 3 rfl) ?_
      refine va_put (D := D) (ci := 0) (v := .int (nI a9)) (ty := .int) (C := RX0) (T := TX0) (N := 17) hx hb hts hin tyX0 tyX0_ok nmX0 hown hK hP hD hS 0 rfl rfl 6 (by decide) f77 (fun _ h9 => h9) rfl (by decide +kernel) rfl rfl (Nat.le_of_ble_eq_true rfl) dX0_move_65 (fun H locs hP hD hS => ?_)
      have hP : va_P D vwCl (wX h0 h1 h2 h3 h4 h5 h6 h7 h8 h9 cI cJ d r lc bg a9 rm k (pn + 1) fa e1 am dd rt (tkB b ((ceilA (sm b k) - gL a9 (lstA fa e1 lc - 1 + d / 365)) * 10000) k) (va_up pd pn d) (va_up pt pn 0) (tkT tp b ((ceilA (sm b k) - gL a9 (lstA fa e1 lc - 1 + d / 365)) * 10000) pn k)) H := hP
      have hD : va_D A (wX h0 h1 h2 h3 h4 h5 h6 h7 h8 h9 cI cJ d r lc bg a9 rm k (pn + 1) fa e1 am dd rt (tkB b ((ceilA (sm b k) - gL a9 (lstA fa e1 lc - 1 + d / 365)) * 10000) k) (va_up pd pn d) (va_up pt pn 0) (tkT tp b ((ceilA (sm b k) - gL a9 (lstA fa e1 lc - 1 + d / 365)) * 10000) pn k)) := hD
      refine lv_aload_n hx hb dX0_move_68 rfl (lv_at hl 2 rfl) ?_
      refine lv_lconst (v := lN 0) hx hb dX0_move_69 (by decide +kernel) ?_
      refine lv_iload_n hx hb dX0_move_70 rfl (lv_at hl 1 rfl) ?_
      refine nk_i2l hx hb (by omega) dX0_move_71 ?_
      refine lv_aload_n hx hb dX0_move_72 rfl (lv_at hl 2 rfl) ?_
      refine nk_rd (W.runV (As := []) (rest := [.long (lN (gL a9 (lstA fa e1 lc - 1 + d / 365))), .long (lN 0), .ref h0]) ⟨hx, hb, hml, hown, hts⟩ (c_X0_debt l D h0 h1 h2 h3 h4 h5 h6 h7 h8 h9 cI cJ d r lc bg a9 rm k (pn + 1) fa e1 am dd rt (tkB b ((ceilA (sm b k) - gL a9 (lstA fa e1 lc - 1 + d / 365)) * 10000) k) (va_up pd pn d) (va_up pt pn 0) (tkT tp b ((ceilA (sm b k) - gL a9 (lstA fa e1 lc - 1 + d / 365)) * 10000) pn k) hk (Nat.lt_of_le_of_lt (sm_mono k (fun j _ => tkB_le b ((ceilA (sm b k) - gL a9 (lstA fa e1 lc - 1 + d / 365)) * 10000) k j)) (by omega))) (cwV 0 hts gX0_move_X0_debt rfl rfl rfl (by decide +kernel) ⟨Nat.le_of_ble_eq_true rfl, Nat.le_of_ble_eq_true rfl⟩) ⟨nk_Pr.blind, va_recv hK hP (ci := 0) (q0 := 0) rfl rfl, fun U hU hW => ⟨rfl, by rw [hU]; exact hP, va_K.moved hW.alike hK⟩⟩ rfl rfl hl.1 rfl (lv_room (Nat.le_of_ble_eq_true rfl)) dX0_move_73 ⟨Nat.zero_le _, Nat.zero_le _⟩) ?_
      refine W.eq (g2 := F0 m 76 ls [.long (lN (ceilA (sm (tkB b ((ceilA (sm b k) - gL a9 (lstA fa e1 lc - 1 + d / 365)) * 10000) k) k))), .long (lN (gL a9 (lstA fa e1 lc - 1 + d / 365))), .long (lN 0), .ref h0]) rfl ?_
      refine lv_lsub hx hb dX0_move_76  ?_
      have hm9 : sm (tkB b ((ceilA (sm b k) - gL a9 (lstA fa e1 lc - 1 + d / 365)) * 10000) k) k ≤ sm b k := sm_mono k (fun j _ => tkB_le b ((ceilA (sm b k) - gL a9 (lstA fa e1 lc - 1 + d / 365)) * 10000) k j)
      have hc8 : ceilA (sm (tkB b ((ceilA (sm b k) - gL a9 (lstA fa e1 lc - 1 + d / 365)) * 10000) k) k) < 200000000000000 := by show (_ + 9999) / 10000 < _; omega
      refine va_mmax_long hx hb (hml.trans hl.1.symm) hown (hts (.methodLink RX0 141 Lib.MathLoose.max_long.x) (by decide +kernel)) (hts (.static Lib.MathLoose.max_long.x) (by decide +kernel)) (hts (.initialized "java/lang/Math") (by decide +kernel)) (hts (.code Lib.MathLoose.max_long.x Lib.MathLoose.max_long.code 4 (some .long)) (by decide +kernel)) (Nat.le_of_ble_eq_true rfl) (Nat.le_of_ble_eq_true rfl) (Nat.zero_le _) (Nat.zero_le _) dX0_move_77 ?_
      refine nk_topl (y := (lN (gL a9 (lstA fa e1 lc - 1 + d / 365) - ceilA (sm (tkB b ((ceilA (sm b k) - gL a9 (lstA fa e1 lc - 1 + d / 365)) * 10000) k) k)))) (nk_maxL0 (by omega) (by omega)) ?_
      refine nk_l2i hx hb dX0_move_80 ?_
      refine va_put (D := D) (ci := 0) (v := .int (nI (gL a9 (lstA fa e1 lc - 1 + d / 365) - ceilA (sm (tkB b ((ceilA (sm b k) - gL a9 (lstA fa e1 lc - 1 + d / 365)) * 10000) k) k)))) (ty := .int) (C := RX0) (T := TX0) (N := 17) hx hb hts hin tyX0 tyX0_ok nmX0 hown hK hP hD hS 0 rfl rfl 7 (by decide) f80 (fun _ h9 => h9) rfl (by decide +kernel) rfl rfl (Nat.le_of_ble_eq_true rfl) dX0_move_81 (fun H locs hP hD hS => ?_)
      have hP : va_P D vwCl (wX h0 h1 h2 h3 h4 h5 h6 h7 h8 h9 cI cJ d r lc bg a9 (gL a9 (lstA fa e1 lc - 1 + d / 365) - ceilA (sm (tkB b ((ceilA (sm b k) - gL a9 (lstA fa e1 lc - 1 + d / 365)) * 10000) k) k)) k (pn + 1) fa e1 am dd rt (tkB b ((ceilA (sm b k) - gL a9 (lstA fa e1 lc - 1 + d / 365)) * 10000) k) (va_up pd pn d) (va_up pt pn 0) (tkT tp b ((ceilA (sm b k) - gL a9 (lstA fa e1 lc - 1 + d / 365)) * 10000) pn k)) H := hP
      have hD : va_D A (wX h0 h1 h2 h3 h4 h5 h6 h7 h8 h9 cI cJ d r lc bg a9 (gL a9 (lstA fa e1 lc - 1 + d / 365) - ceilA (sm (tkB b ((ceilA (sm b k) - gL a9 (lstA fa e1 lc - 1 + d / 365)) * 10000) k) k)) k (pn + 1) fa e1 am dd rt (tkB b ((ceilA (sm b k) - gL a9 (lstA fa e1 lc - 1 + d / 365)) * 10000) k) (va_up pd pn d) (va_up pt pn 0) (tkT tp b ((ceilA (sm b k) - gL a9 (lstA fa e1 lc - 1 + d / 365)) * 10000) pn k)) := hD
      refine lv_lload_n hx hb dX0_move_84 rfl (lv_at hl 0 rfl) ?_
      refine vx_ret ?_
      refine W.widen (k := 1) (n := 6) (by decide) (by decide) ?_
      exact W.lret (v := (lN (ceilA (sm b k) - gL a9 (lstA fa e1 lc - 1 + d / 365)))) hx hb hr (fun t ht hW => ⟨⟨(lN (ceilA (sm b k) - gL a9 (lstA fa e1 lc - 1 + d / 365))), wX h0 h1 h2 h3 h4 h5 h6 h7 h8 h9 cI cJ d r lc bg a9 (gL a9 (lstA fa e1 lc - 1 + d / 365) - ceilA (sm (tkB b ((ceilA (sm b k) - gL a9 (lstA fa e1 lc - 1 + d / 365)) * 10000) k) k)) k (pn + 1) fa e1 am dd rt (tkB b ((ceilA (sm b k) - gL a9 (lstA fa e1 lc - 1 + d / 365)) * 10000) k) (va_up pd pn d) (va_up pt pn 0) (tkT tp b ((ceilA (sm b k) - gL a9 (lstA fa e1 lc - 1 + d / 365)) * 10000) pn k), rfl, ⟨by omega, hok8, by omega, rfl, Or.inr ⟨by omega, rfl⟩⟩, by rw [ht]; exact hP, va_K.moved hW.alike hK, hD⟩, hS.F ht⟩) hS.2.2 dX0_move_85
  · exact vx_throwS (own := RX0) (cls := RIS) (names := ["java/lang/RuntimeException", "java/lang/Exception"]) (ik := 63) (is := 136) (ic := 67) (A := va_A (wX h0 h1 h2 h3 h4 h5 h6 h7 h8 h9 cI cJ d r lc bg w rm k pn fa e1 am dd rt b pd pt tp) s.heap.size) hx hb hfl hown (by decide +kernel) (by decide +kernel) (hts (.classLink RX0 63 RIS) (by decide +kernel)) (hts (.initialized RIS) (by decide +kernel)) hr136 a67 (by decide +kernel) hZ.1.1 hZ.1.2 hSz (hl.1.trans hml.symm) dX0_move_20 dX0_move_23 dX0_move_24 dX0_move_26 dX0_move_29 (fun x h => (htab x h).elim) (Nat.le_of_ble_eq_true rfl) (Nat.le_of_ble_eq_true rfl) (Nat.le_of_ble_eq_true rfl) (Nat.le_of_ble_eq_true rfl) hlocks (fun t hvm hsz9 hk9 => ⟨(), trivial, Or.inr ⟨rfl, by omega, fun q => by omega⟩, hsz9, fun q h1 _ => hk9 q h1⟩) (fun z h => nomatch h) (Nat.le_of_ble_eq_true rfl) (Nat.le_of_ble_eq_true rfl)
set_option maxHeartbeats 4000000 in
set_option maxRecDepth 100000 in
theorem c_X0_balance (l : Launch) (hfl : l.stackTraces = false) (D : va_G) (h0 h1 h2 h3 h4 h5 h6 h7 h8 h9 : Nat) (cI cJ : ClassId) (d r lc bg w rm k pn : Nat) (fa e1 am dd rt b pd pt tp : Nat → Nat) (sz : Nat) (p0 : Int32) (z : Int) (a9 : Nat)  (hz : p0.toInt = z) (hpa : 0 ≤ z → p0 = nI a9 ∧ a9 < 2147483648) (hk : k ≤ 20) (hb9 : ∀ j, j < k → b j < 4611686018427387904) : vx_Met l yX0_balance wsX0_balance { frames := 6, cells := 1, slots := 6, locals := 92 } (nk_Px D (wX h0 h1 h2 h3 h4 h5 h6 h7 h8 h9 cI cJ d r lc bg w rm k pn fa e1 am dd rt b pd pt tp) (tX cI cJ) sz [.ref h0, .int p0]) (nk_RdP (some (.long (lN (ceilA (b a9))))) (0 ≤ z ∧ z < (k : Int))) (nk_XC (fun E => E = RIO ∧ ¬ (0 ≤ z ∧ z < (k : Int))) sz) 1 6 (fun _ => False) := by
  refine vx_ofW (cc := cX0_balance) (maxL := 2) (ret := (some .long)) (by decide) rfl ?_
  intro p e s m args below meth c s₁ B hml htab hv
  obtain ⟨hargs, hsz, hP, hK, hD0, hZ⟩ := hv
  have hx := B.exec
  have hb := B.bytes
  have hr := B.returns
  have hts := atoms_spec (ws := wsX0_balance) B.pre
  have hown : s.vm.findClass RX0 = some m.cls := findClass_of_methodNamed B.named
  have hlocks := B.notSynchronized
  subst hsz
  have hin : ∀ w ∈ wsX00, w ∈ wsX0_balance := by decide +kernel
  have hD := hD0.self (sz := s.heap.size)
  have hA : ∀ q : Nat, s.heap.size ≤ q → (fun q => s.heap.size ≤ q) q := fun q h => h
  have hS : va_S (fun q => s.heap.size ≤ q) s.heap s.heap [] := va_S.rf
  have hSz : va_S (va_A (wX h0 h1 h2 h3 h4 h5 h6 h7 h8 h9 cI cJ d r lc bg w rm k pn fa e1 am dd rt b pd pt tp) s.heap.size) s.heap s.heap [] := va_S.rf
  obtain ⟨fx, hr65, hr92, hr101, hr111, hr125, hr128, hr134, hr136, hr145, hr167, hr170⟩ := hZ.2.2.2
  have a127 : ∀ w ∈ vx_atS RX0 127 RIO ["java/lang/RuntimeException", "java/lang/Exception"], w.before args s = true := vx_hat (B := [.castable RIO RIO, .declares (Bundle.initS "java/lang/RuntimeException"), .declares (Bundle.initS "java/lang/Exception"), .declares (Bundle.initS Bundle.tN)]) (fun w h => hts w ((by decide +kernel : ∀ w ∈ (vx_atS RX0 127 RIO ["java/lang/RuntimeException", "java/lang/Exception"]).filter goodWord, w ∈ wsX0_balance) w h)) (by decide +kernel) (vx_c (va_Nw.use (A := args) rfl hZ.2.1.2.2.1) (vx_c (va_Nw.use (A := args) rfl hZ.2.2.1.1) (vx_c (va_Nw.use (A := args) rfl hZ.2.2.1.2.1) (vx_c (va_Nw.use (A := args) rfl hZ.2.2.1.2.2) vx_n))))
  have f89 := hts (.fieldLink RX0 89 "EquityRelease" "drawingCount" "I") (by decide +kernel)
  have f29 := hts (.fieldLink RX0 29 "EquityRelease" "balances" "[J") (by decide +kernel)
  have hl := lv_entry ([.ref h0, .int p0]) (n := 2) (Nat.le_of_ble_eq_true rfl)
  have hEe : entryFrame m args 2 = entryFrame m ([.ref h0, .int p0] : List Value).toArray 2 := by rw [hargs]
  rw [hEe, lg_entry_eq]
  generalize (lg_sl ([.ref h0, .int p0]) ++ List.replicate (2 - (lg_sl ([.ref h0, .int p0])).length) Slot.unset).toArray = ls at hl ⊢
  have hl : lv_has ls 2 [(0, .ref h0), (1, .int p0)] := hl
  refine lv_iload_n hx hb dX0_balance_0 rfl (lv_at hl 1 rfl) ?_
  refine nk_zlt (tgt := 12) hx hb hz dX0_balance_1 (by decide) (fun c1 => ?_) (fun c1 => ?_)
  · exact vx_throwS (own := RX0) (cls := RIO) (names := ["java/lang/RuntimeException", "java/lang/Exception"]) (ik := 123) (is := 145) (ic := 127) (A := va_A (wX h0 h1 h2 h3 h4 h5 h6 h7 h8 h9 cI cJ d r lc bg w rm k pn fa e1 am dd rt b pd pt tp) s.heap.size) hx hb hfl hown (by decide +kernel) (by decide +kernel) (hts (.classLink RX0 123 RIO) (by decide +kernel)) (hts (.initialized RIO) (by decide +kernel)) hr145 a127 (by decide +kernel) hZ.1.1 hZ.1.2 hSz (hl.1.trans hml.symm) dX0_balance_12 dX0_balance_15 dX0_balance_16 dX0_balance_18 dX0_balance_21 (fun x h => (htab x h).elim) (Nat.le_of_ble_eq_true rfl) (Nat.le_of_ble_eq_true rfl) (Nat.le_of_ble_eq_true rfl) (Nat.le_of_ble_eq_true rfl) hlocks (fun t hvm hsz9 hk9 => ⟨(), trivial, ⟨rfl, by omega⟩, hsz9, fun q h1 _ => hk9 q h1⟩) (fun z h => nomatch h) (Nat.le_of_ble_eq_true rfl) (Nat.le_of_ble_eq_true rfl)
  · refine lv_iload_n hx hb dX0_balance_4 rfl (lv_at hl 1 rfl) ?_
    refine lv_aload_n hx hb dX0_balance_5 rfl (lv_at hl 0 rfl) ?_
    refine va_get (D := D) (ci := 0) (v := .int (nI k)) (C := RX0) (T := TX0) (N := 17) hx hb hts hin hown hK hP 0 rfl rfl 8 (by decide) f89 (fun _ h9 => h9) rfl dX0_balance_6 ?_
    refine nk_zcmp_lt (tgt := 22) hx hb hz (nI_toInt (by omega)) dX0_balance_9 (by decide) (fun c9 => ?_) (fun c9 => ?_)
    · obtain ⟨rfl, ha9⟩ := hpa (by omega)
      have za : z = (a9 : Int) := by rw [← hz]; exact nI_toInt (by omega)
      refine lv_aload_n hx hb dX0_balance_22 rfl (lv_at hl 0 rfl) ?_
      refine va_get (D := D) (ci := 0) (v := .ref h6) (C := RX0) (T := TX0) (N := 17) hx hb hts hin hown hK hP 0 rfl rfl 12 (by decide) f29 (fun _ h9 => h9) rfl dX0_balance_23 ?_
      refine lv_iload_n hx hb dX0_balance_26 rfl (lv_at hl 1 rfl) ?_
      refine nk_lald hx hb hK hP 6 1 rfl rfl (by omega) (by decide) dX0_balance_27 ?_
      refine nk_rd (W.runS (As := [.long (lN (b a9))]) (rest := []) ⟨hx, hb, hml, hown, hts⟩ (c_X0_wholeAmount l (b a9) (hb9 a9 (by omega))) (va_cwS 1 hts gX0_balance_X0_wholeAmount rfl rfl rfl (by decide +kernel) ⟨Nat.le_of_ble_eq_true rfl, Nat.le_of_ble_eq_true rfl⟩) ⟨nk_P0.blind, fun U hU hW => ⟨rfl, trivial⟩⟩ rfl rfl hl.1 rfl (lv_room (Nat.le_of_ble_eq_true rfl)) dX0_balance_28 ⟨Nat.zero_le _, Nat.zero_le _⟩) ?_
      refine W.eq (g2 := F0 m 31 ls [.long (lN (ceilA (b a9)))]) rfl ?_
      refine vx_ret ?_
      refine W.widen (k := 1) (n := 6) (by decide) (by decide) ?_
      exact W.lret hx hb hr (fun t ht hW => ⟨rfl, ⟨by omega, by omega⟩, ht⟩) (fun z h => nomatch h) dX0_balance_31
    · exact vx_throwS (own := RX0) (cls := RIO) (names := ["java/lang/RuntimeException", "java/lang/Exception"]) (ik := 123) (is := 145) (ic := 127) (A := va_A (wX h0 h1 h2 h3 h4 h5 h6 h7 h8 h9 cI cJ d r lc bg w rm k pn fa e1 am dd rt b pd pt tp) s.heap.size) hx hb hfl hown (by decide +kernel) (by decide +kernel) (hts (.classLink RX0 123 RIO) (by decide +kernel)) (hts (.initialized RIO) (by decide +kernel)) hr145 a127 (by decide +kernel) hZ.1.1 hZ.1.2 hSz (hl.1.trans hml.symm) dX0_balance_12 dX0_balance_15 dX0_balance_16 dX0_balance_18 dX0_balance_21 (fun x h => (htab x h).elim) (Nat.le_of_ble_eq_true rfl) (Nat.le_of_ble_eq_true rfl) (Nat.le_of_ble_eq_true rfl) (Nat.le_of_ble_eq_true rfl) hlocks (fun t hvm hsz9 hk9 => ⟨(), trivial, ⟨rfl, by omega⟩, hsz9, fun q h1 _ => hk9 q h1⟩) (fun z h => nomatch h) (Nat.le_of_ble_eq_true rfl) (Nat.le_of_ble_eq_true rfl)
set_option maxHeartbeats 4000000 in
set_option maxRecDepth 100000 in
theorem c_X0_charge (l : Launch) (hfl : l.stackTraces = false) (D : va_G) (h0 h1 h2 h3 h4 h5 h6 h7 h8 h9 : Nat) (cI cJ : ClassId) (d r lc bg w rm k pn : Nat) (fa e1 am dd rt b pd pt tp : Nat → Nat) (sz : Nat) (p0 : Int32) (z : Int) (a9 : Nat)  (hz : p0.toInt = z) (hpa : 0 ≤ z → p0 = nI a9 ∧ a9 < 2147483648) (hlc : lc ≤ 2) (he : ∀ j, j < lc → e1 j ≤ 15001) (hed : ∀ j, j < lc → e1 j ≤ d + 1) (hk : k ≤ 20) (ham : ∀ j, j < k → am j ≤ 10000000) (hpn : pn ≤ 40) (hbg : bg ≤ d) (hd : d ≤ 15000) (hpd : ∀ j, j < pn → bg ≤ pd j ∧ pd j ≤ 15000) (hpt : ∀ j, j < pn → pt j ≤ 10000000) : vx_Met l yX0_charge wsX0_charge { frames := 7, cells := 1, slots := 6, locals := 114 } (nk_Px D (wX h0 h1 h2 h3 h4 h5 h6 h7 h8 h9 cI cJ d r lc bg w rm k pn fa e1 am dd rt b pd pt tp) (tX cI cJ) sz [.ref h0, .int p0]) (nk_RdP (some (.int (nI (chg (mxE e1 lc) d ((d - bg) / 365) (sm am k) (pY bg pd pt ((d - bg) / 365) pn) a9)))) ((1 ≤ z ∧ z ≤ 10000000) ∧ (0 < lc ∧ 0 < alive e1 lc))) (nk_XC (fun E => (E = RIA ∧ ¬ (1 ≤ z ∧ z ≤ 10000000)) ∨ (E = RIS ∧ (1 ≤ z ∧ z ≤ 10000000) ∧ ¬ (0 < lc ∧ 0 < alive e1 lc))) sz) 1 6 (fun _ => False) := by
  refine vx_ofW (cc := cX0_charge) (maxL := 2) (ret := (some .int)) (by decide) rfl ?_
  intro p e s m args below meth c s₁ B hml htab hv
  obtain ⟨hargs, hsz, hP, hK, hD0, hZ⟩ := hv
  have hx := B.exec
  have hb := B.bytes
  have hr := B.returns
  have hts := atoms_spec (ws := wsX0_charge) B.pre
  have hown : s.vm.findClass RX0 = some m.cls := findClass_of_methodNamed B.named
  have hlocks := B.notSynchronized
  subst hsz
  have hin : ∀ w ∈ wsX00, w ∈ wsX0_charge := by decide +kernel
  have hD := hD0.self (sz := s.heap.size)
  have hA : ∀ q : Nat, s.heap.size ≤ q → (fun q => s.heap.size ≤ q) q := fun q h => h
  have hS : va_S (fun q => s.heap.size ≤ q) s.heap s.heap [] := va_S.rf
  have hSz : va_S (va_A (wX h0 h1 h2 h3 h4 h5 h6 h7 h8 h9 cI cJ d r lc bg w rm k pn fa e1 am dd rt b pd pt tp) s.heap.size) s.heap s.heap [] := va_S.rf
  have k42 : (Cond.constant RX0 42 (nI 10000000)).before args s = true := by
    rw [show (nI 10000000 : Int32) = 10000000 from by decide +kernel]
    exact hts (.constant RX0 42 (10000000)) (by decide +kernel)
  have hl := lv_entry ([.ref h0, .int p0]) (n := 2) (Nat.le_of_ble_eq_true rfl)
  have hEe : entryFrame m args 2 = entryFrame m ([.ref h0, .int p0] : List Value).toArray 2 := by rw [hargs]
  rw [hEe, lg_entry_eq]
  generalize (lg_sl ([.ref h0, .int p0]) ++ List.replicate (2 - (lg_sl ([.ref h0, .int p0])).length) Slot.unset).toArray = ls at hl ⊢
  have hl : lv_has ls 2 [(0, .ref h0), (1, .int p0)] := hl
  refine lv_iload_n hx hb dX0_charge_0 rfl (lv_at hl 1 rfl) ?_
  refine lv_iconst (v := nI 1) hx hb dX0_charge_1 (by decide +kernel) ?_
  refine lv_ldc (v := nI 10000000) hx hb hown k42 dX0_charge_2 ?_
  refine nk_rdx (vx_runS (As := [.int p0, .int (nI 1), .int (nI 10000000)]) (rest := []) ⟨hx, hb, hml, hown, hts⟩ (c_X0_requireWithin l hfl s.heap.size p0 z 1 10000000 hz (by decide) (by decide)) (va_cwS 3 hts gX0_charge_X0_requireWithin rfl rfl rfl (by decide +kernel) ⟨Nat.le_of_ble_eq_true rfl, Nat.le_of_ble_eq_true rfl⟩) ⟨nk_Ps.blind, fun U hU hW => ⟨rfl, by rw [hU], by rw [hU]; exact nk_Z.go hZ hW (fun q h => Or.inr h)⟩⟩ rfl rfl hl.1 rfl (lv_room (Nat.le_of_ble_eq_true rfl)) dX0_charge_4 ⟨Nat.le_of_ble_eq_true rfl, Nat.le_of_ble_eq_true rfl⟩) hS hA (fun E ce q9 H1 hE hz hk9 hS1 hce hcv hcl => ?_) (fun hok4 => ?_)
  · exact vx_out (fun x h => (htab x h).elim) hlocks hce hcv hcl (fun t ht hW => ⟨(), trivial, Or.inl ⟨hE.1, by have := hE.2; omega⟩, by rw [ht]; exact hz, fun q h1 _ => by rw [ht]; exact hk9 q h1⟩) (fun z h => nomatch h) (Nat.le_of_ble_eq_true rfl) (Nat.le_of_ble_eq_true rfl)
  refine W.eq (g2 := F0 m 7 ls []) rfl ?_
  obtain ⟨rfl, ha9⟩ := hpa (by omega)
  have za : z = (a9 : Int) := by rw [← hz]; exact nI_toInt (by omega)
  refine lv_aload_n hx hb dX0_charge_7 rfl (lv_at hl 0 rfl) ?_
  refine nk_rdx (vx_runV (As := []) (rest := []) ⟨hx, hb, hml, hown, hts⟩ (c_X0_requireRunning l hfl D h0 h1 h2 h3 h4 h5 h6 h7 h8 h9 cI cJ d r lc bg w rm k pn fa e1 am dd rt b pd pt tp s.heap.size hlc he) (cwV 0 hts gX0_charge_X0_requireRunning rfl rfl rfl (by decide +kernel) ⟨Nat.le_of_ble_eq_true rfl, Nat.le_of_ble_eq_true rfl⟩) ⟨nk_Px.blind, va_recv hK hP (ci := 0) (q0 := 0) rfl rfl, fun U hU hW => ⟨rfl, by rw [hU], by rw [hU]; exact hP, va_K.moved hW.alike hK, hD.weaken (fun _ _ _ _ => trivial), by rw [hU]; exact nk_Z.go hZ hW (fun _ h => h)⟩⟩ rfl rfl hl.1 rfl (lv_room (Nat.le_of_ble_eq_true rfl)) dX0_charge_8 ⟨Nat.le_of_ble_eq_true rfl, Nat.le_of_ble_eq_true rfl⟩) hS hA (fun E ce q9 H1 hE hz hk9 hS1 hce hcv hcl => ?_) (fun hok8 => ?_)
  · exact vx_out (fun x h => (htab x h).elim) hlocks hce hcv hcl (fun t ht hW => ⟨(), trivial, Or.inr ⟨hE.1, by omega, hE.2⟩, by rw [ht]; exact hz, fun q h1 _ => by rw [ht]; exact hk9 q h1⟩) (fun z h => nomatch h) (Nat.le_of_ble_eq_true rfl) (Nat.le_of_ble_eq_true rfl)
  refine W.eq (g2 := F0 m 11 ls []) rfl ?_
  refine lv_aload_n hx hb dX0_charge_11 rfl (lv_at hl 0 rfl) ?_
  refine lv_iload_n hx hb dX0_charge_12 rfl (lv_at hl 1 rfl) ?_
  refine nk_rd (W.runV (As := [.int (nI a9)]) (rest := []) ⟨hx, hb, hml, hown, hts⟩ (c_X0_chargeFor l D h0 h1 h2 h3 h4 h5 h6 h7 h8 h9 cI cJ d r lc bg w rm k pn fa e1 am dd rt b pd pt tp a9 (by omega) hlc he hed hk ham hpn hbg hd hpd hpt) (cwV 1 hts gX0_charge_X0_chargeFor rfl rfl rfl (by decide +kernel) ⟨Nat.le_of_ble_eq_true rfl, Nat.le_of_ble_eq_true rfl⟩) ⟨nk_Pr.blind, va_recv hK hP (ci := 0) (q0 := 0) rfl rfl, fun U hU hW => ⟨rfl, by rw [hU]; exact hP, va_K.moved hW.alike hK⟩⟩ rfl rfl hl.1 rfl (lv_room (Nat.le_of_ble_eq_true rfl)) dX0_charge_13 ⟨Nat.zero_le _, Nat.zero_le _⟩) ?_
  refine W.eq (g2 := F0 m 16 ls [.int (nI (chg (mxE e1 lc) d ((d - bg) / 365) (sm am k) (pY bg pd pt ((d - bg) / 365) pn) a9))]) rfl ?_
  refine vx_ret ?_
  refine W.widen (k := 1) (n := 6) (by decide) (by decide) ?_
  exact W.iret hx hb hr (fun t ht hW => ⟨rfl, ⟨by omega, hok8⟩, ht⟩) (fun z h => nomatch h) dX0_charge_16
set_option maxHeartbeats 4000000 in
set_option maxRecDepth 100000 in
theorem c_X0_begin (l : Launch) (hfl : l.stackTraces = false) (D : va_G) (h0 h1 h2 h3 h4 h5 h6 h7 h8 h9 : Nat) (cI cJ : ClassId) (d r lc bg w rm k pn : Nat) (fa e1 am dd rt b pd pt tp : Nat → Nat) (sz : Nat) (p1 p2 p3 p4 : Int32) (z1 z2 z3 z4 : Int) (a1 a2 a3 a4 : Nat) (hz1 : p1.toInt = z1) (hpa1 : 0 ≤ z1 → p1 = nI a1 ∧ a1 < 2147483648) (hz2 : p2.toInt = z2) (hpa2 : 0 ≤ z2 → p2 = nI a2 ∧ a2 < 2147483648) (hz3 : p3.toInt = z3) (hpa3 : 0 ≤ z3 → p3 = nI a3 ∧ a3 < 2147483648) (hz4 : p4.toInt = z4) (hpa4 : 0 ≤ z4 → p4 = nI a4 ∧ a4 < 2147483648) (hlc : lc ≤ 2) (hd : d ≤ 15000) (hk0 : lc = 0 → k = 0) : vx_Met l yX0_begin wsX0_begin { frames := 7, cells := 1, slots := 6, locals := 114 } (nk_Px D (wX h0 h1 h2 h3 h4 h5 h6 h7 h8 h9 cI cJ d r lc bg w rm k pn fa e1 am dd rt b pd pt tp) (tX cI cJ) sz [.ref h0, .int p1, .int p2, .int p3, .int p4]) (va_Qi (fun r9 w1 => ((1000 ≤ z1 ∧ z1 ≤ 10000000) ∧ (55 ≤ z2 ∧ z2 ≤ 95) ∧ (z3 = 0 ∨ (55 ≤ z3 ∧ z3 ≤ 95)) ∧ (0 ≤ z4 ∧ z4 ≤ 10000000)) ∧ lc = 0 ∧ ((a3 = 0 ∧ a4 = 0 ∧ a4 ≤ gL a1 (a2 + d / 365) ∧ r9 = nI (gL a1 (a2 + d / 365)) ∧ w1 = wX h0 h1 h2 h3 h4 h5 h6 h7 h8 h9 cI cJ d r (lc + 1) d a1 (gL a1 (a2 + d / 365)) k pn (va_up fa lc a2) (va_up e1 lc 0) am dd rt b pd pt tp) ∨ (a3 = 0 ∧ 0 < a4 ∧ a4 ≤ gL a1 (a2 + d / 365) ∧ r9 = nI (gL a1 (a2 + d / 365) - a4) ∧ w1 = wX h0 h1 h2 h3 h4 h5 h6 h7 h8 h9 cI cJ d r (lc + 1) d a1 (gL a1 (a2 + d / 365) - a4) (k + 1) pn (va_up fa lc a2) (va_up e1 lc 0) (va_up am k a4) (va_up dd k d) (va_up rt k r) (va_up b k (a4 * 10000)) pd pt tp) ∨ (0 < a3 ∧ a4 = 0 ∧ a4 ≤ gL a1 (min a2 a3 + d / 365) ∧ r9 = nI (gL a1 (min a2 a3 + d / 365)) ∧ w1 = wX h0 h1 h2 h3 h4 h5 h6 h7 h8 h9 cI cJ d r (lc + 1 + 1) d a1 (gL a1 (min a2 a3 + d / 365)) k pn (va_up (va_up fa lc a2) (lc + 1) a3) (va_up (va_up e1 lc 0) (lc + 1) 0) am dd rt b pd pt tp) ∨ (0 < a3 ∧ 0 < a4 ∧ a4 ≤ gL a1 (min a2 a3 + d / 365) ∧ r9 = nI (gL a1 (min a2 a3 + d / 365) - a4) ∧ w1 = wX h0 h1 h2 h3 h4 h5 h6 h7 h8 h9 cI cJ d r (lc + 1 + 1) d a1 (gL a1 (min a2 a3 + d / 365) - a4) (k + 1) pn (va_up (va_up fa lc a2) (lc + 1) a3) (va_up (va_up e1 lc 0) (lc + 1) 0) (va_up am k a4) (va_up dd k d) (va_up rt k r) (va_up b k (a4 * 10000)) pd pt tp))) (fun w1 t => nk_At D (tX cI cJ) (va_A (wX h0 h1 h2 h3 h4 h5 h6 h7 h8 h9 cI cJ d r lc bg w rm k pn fa e1 am dd rt b pd pt tp) sz) w1 t) (va_A (wX h0 h1 h2 h3 h4 h5 h6 h7 h8 h9 cI cJ d r lc bg w rm k pn fa e1 am dd rt b pd pt tp) sz)) (nk_XC (fun E => (E = RIA ∧ ¬ ((1000 ≤ z1 ∧ z1 ≤ 10000000) ∧ (55 ≤ z2 ∧ z2 ≤ 95) ∧ (z3 = 0 ∨ (55 ≤ z3 ∧ z3 ≤ 95)) ∧ (0 ≤ z4 ∧ z4 ≤ 10000000))) ∨ (E = RIS ∧ ((1000 ≤ z1 ∧ z1 ≤ 10000000) ∧ (55 ≤ z2 ∧ z2 ≤ 95) ∧ (z3 = 0 ∨ (55 ≤ z3 ∧ z3 ≤ 95)) ∧ (0 ≤ z4 ∧ z4 ≤ 10000000)) ∧ (0 < lc ∨ (a3 = 0 ∧ gL a1 (a2 + d / 365) < a4) ∨ (0 < a3 ∧ gL a1 (min a2 a3 + d / 365) < a4)))) sz) 1 6 (va_A (wX h0 h1 h2 h3 h4 h5 h6 h7 h8 h9 cI cJ d r lc bg w rm k pn fa e1 am dd rt b pd pt tp) sz) := by
  refine vx_ofW (cc := cX0_begin) (maxL := 7) (ret := (some .int)) (by decide) rfl ?_
  intro p e s m args below meth c s₁ B hml htab hv
  obtain ⟨hargs, hsz, hP, hK, hD0, hZ⟩ := hv
  have hx := B.exec
  have hb := B.bytes
  have hr := B.returns
  have hts := atoms_spec (ws := wsX0_begin) B.pre
  have hown : s.vm.findClass RX0 = some m.cls := findClass_of_methodNamed B.named
  have hlocks := B.notSynchronized
  subst hsz
  have hin : ∀ w ∈ wsX00, w ∈ wsX0_begin := by decide +kernel
  have hD := hD0.self (sz := s.heap.size)
  generalize hAe : va_A (wX h0 h1 h2 h3 h4 h5 h6 h7 h8 h9 cI cJ d r lc bg w rm k pn fa e1 am dd rt b pd pt tp) s.heap.size = A at hD ⊢
  have hA : ∀ q : Nat, s.heap.size ≤ q → A q := fun q h => by rw [← hAe]; exact Or.inr h
  have hS : va_S A s.heap s.heap [] := va_S.rf
  have hSz : va_S (va_A (wX h0 h1 h2 h3 h4 h5 h6 h7 h8 h9 cI cJ d r lc bg w rm k pn fa e1 am dd rt b pd pt tp) s.heap.size) s.heap s.heap [] := va_S.rf
  obtain ⟨fx, hr65, hr92, hr101, hr111, hr125, hr128, hr134, hr136, hr145, hr167, hr170⟩ := hZ.2.2.2
  have k42 : (Cond.constant RX0 42 (nI 10000000)).before args s = true := by
    rw [show (nI 10000000 : Int32) = 10000000 from by decide +kernel]
    exact hts (.constant RX0 42 (10000000)) (by decide +kernel)
  have f53 := hts (.fieldLink RX0 53 "EquityRelease" "today" "I") (by decide +kernel)
  have a67 : ∀ w ∈ vx_atS RX0 67 RIS ["java/lang/RuntimeException", "java/lang/Exception"], w.before args s = true := vx_hat (B := [.castable RIS RIS, .declares (Bundle.initS "java/lang/RuntimeException"), .declares (Bundle.initS "java/lang/Exception"), .declares (Bundle.initS Bundle.tN)]) (fun w h => hts w ((by decide +kernel : ∀ w ∈ (vx_atS RX0 67 RIS ["java/lang/RuntimeException", "java/lang/Exception"]).filter goodWord, w ∈ wsX0_begin) w h)) (by decide +kernel) (vx_c (va_Nw.use (A := args) rfl hZ.2.1.2.1) (vx_c (va_Nw.use (A := args) rfl hZ.2.2.1.1) (vx_c (va_Nw.use (A := args) rfl hZ.2.2.1.2.1) (vx_c (va_Nw.use (A := args) rfl hZ.2.2.1.2.2) vx_n))))
  have f74 := hts (.fieldLink RX0 74 "EquityRelease" "beginDay" "I") (by decide +kernel)
  have f77 := hts (.fieldLink RX0 77 "EquityRelease" "houseWorth" "I") (by decide +kernel)
  have f80 := hts (.fieldLink RX0 80 "EquityRelease" "roomLeft" "I") (by decide +kernel)
  have hl := lv_entry ([.ref h0, .int p1, .int p2, .int p3, .int p4]) (n := 7) (Nat.le_of_ble_eq_true rfl)
  have hEe : entryFrame m args 7 = entryFrame m ([.ref h0, .int p1, .int p2, .int p3, .int p4] : List Value).toArray 7 := by rw [hargs]
  rw [hEe, lg_entry_eq]
  generalize (lg_sl ([.ref h0, .int p1, .int p2, .int p3, .int p4]) ++ List.replicate (7 - (lg_sl ([.ref h0, .int p1, .int p2, .int p3, .int p4])).length) Slot.unset).toArray = ls at hl ⊢
  have hl : lv_has ls 7 [(0, .ref h0), (1, .int p1), (2, .int p2), (3, .int p3), (4, .int p4)] := hl
  refine lv_iload_n hx hb dX0_begin_0 rfl (lv_at hl 1 rfl) ?_
  refine lv_sipush (v := nI 1000) hx hb dX0_begin_1 (by decide +kernel) ?_
  refine lv_ldc (v := nI 10000000) hx hb hown k42 dX0_begin_4 ?_
  refine nk_rdx (vx_runS (As := [.int p1, .int (nI 1000), .int (nI 10000000)]) (rest := []) ⟨hx, hb, hml, hown, hts⟩ (c_X0_requireWithin l hfl s.heap.size p1 z1 1000 10000000 hz1 (by decide) (by decide)) (va_cwS 3 hts gX0_begin_X0_requireWithin rfl rfl rfl (by decide +kernel) ⟨Nat.le_of_ble_eq_true rfl, Nat.le_of_ble_eq_true rfl⟩) ⟨nk_Ps.blind, fun U hU hW => ⟨rfl, by rw [hU], by rw [hU]; exact nk_Z.go hZ hW (fun q h => Or.inr h)⟩⟩ rfl rfl hl.1 rfl (lv_room (Nat.le_of_ble_eq_true rfl)) dX0_begin_6 ⟨Nat.le_of_ble_eq_true rfl, Nat.le_of_ble_eq_true rfl⟩) hS hA (fun E ce q9 H1 hE hz hk9 hS1 hce hcv hcl => ?_) (fun hok6 => ?_)
  · exact vx_out (fun x h => (htab x h).elim) hlocks hce hcv hcl (fun t ht hW => ⟨(), trivial, Or.inl ⟨hE.1, by have := hE.2; omega⟩, by rw [ht]; exact hz, fun q h1 _ => by rw [ht]; exact hk9 q h1⟩) (fun z h => nomatch h) (Nat.le_of_ble_eq_true rfl) (Nat.le_of_ble_eq_true rfl)
  refine W.eq (g2 := F0 m 9 ls []) rfl ?_
  refine lv_iload_n hx hb dX0_begin_9 rfl (lv_at hl 2 rfl) ?_
  refine lv_bipush (v := nI 55) hx hb dX0_begin_10 (by decide +kernel) ?_
  refine lv_bipush (v := nI 95) hx hb dX0_begin_12 (by decide +kernel) ?_
  refine nk_rdx (vx_runS (As := [.int p2, .int (nI 55), .int (nI 95)]) (rest := []) ⟨hx, hb, hml, hown, hts⟩ (c_X0_requireWithin l hfl s.heap.size p2 z2 55 95 hz2 (by decide) (by decide)) (va_cwS 3 hts gX0_begin_X0_requireWithin rfl rfl rfl (by decide +kernel) ⟨Nat.le_of_ble_eq_true rfl, Nat.le_of_ble_eq_true rfl⟩) ⟨nk_Ps.blind, fun U hU hW => ⟨rfl, by rw [hU], by rw [hU]; exact nk_Z.go hZ hW (fun q h => Or.inr h)⟩⟩ rfl rfl hl.1 rfl (lv_room (Nat.le_of_ble_eq_true rfl)) dX0_begin_14 ⟨Nat.le_of_ble_eq_true rfl, Nat.le_of_ble_eq_true rfl⟩) hS hA (fun E ce q9 H1 hE hz hk9 hS1 hce hcv hcl => ?_) (fun hok14 => ?_)
  · exact vx_out (fun x h => (htab x h).elim) hlocks hce hcv hcl (fun t ht hW => ⟨(), trivial, Or.inl ⟨hE.1, by have := hE.2; omega⟩, by rw [ht]; exact hz, fun q h1 _ => by rw [ht]; exact hk9 q h1⟩) (fun z h => nomatch h) (Nat.le_of_ble_eq_true rfl) (Nat.le_of_ble_eq_true rfl)
  refine W.eq (g2 := F0 m 17 ls []) rfl ?_
  refine lv_iload_n hx hb dX0_begin_17 rfl (lv_at hl 3 rfl) ?_
  refine nk_zeq (tgt := 29) hx hb hz3 dX0_begin_18 (by decide) (fun c18 => ?_) (fun c18 => ?_)
  · refine lv_iload hx hb dX0_begin_29 (lv_at hl 4 rfl) ?_
    refine lv_iconst (v := nI 0) hx hb dX0_begin_31 (by decide +kernel) ?_
    refine lv_ldc (v := nI 10000000) hx hb hown k42 dX0_begin_32 ?_
    refine nk_rdx (vx_runS (As := [.int p4, .int (nI 0), .int (nI 10000000)]) (rest := []) ⟨hx, hb, hml, hown, hts⟩ (c_X0_requireWithin l hfl s.heap.size p4 z4 0 10000000 hz4 (by decide) (by decide)) (va_cwS 3 hts gX0_begin_X0_requireWithin rfl rfl rfl (by decide +kernel) ⟨Nat.le_of_ble_eq_true rfl, Nat.le_of_ble_eq_true rfl⟩) ⟨nk_Ps.blind, fun U hU hW => ⟨rfl, by rw [hU], by rw [hU]; exact nk_Z.go hZ hW (fun q h => Or.inr h)⟩⟩ rfl rfl hl.1 rfl (lv_room (Nat.le_of_ble_eq_true rfl)) dX0_begin_34 ⟨Nat.le_of_ble_eq_true rfl, Nat.le_of_ble_eq_true rfl⟩) hS hA (fun E ce q9 H1 hE hz hk9 hS1 hce hcv hcl => ?_) (fun hok34 => ?_)
    · exact vx_out (fun x h => (htab x h).elim) hlocks hce hcv hcl (fun t ht hW => ⟨(), trivial, Or.inl ⟨hE.1, by have := hE.2; omega⟩, by rw [ht]; exact hz, fun q h1 _ => by rw [ht]; exact hk9 q h1⟩) (fun z h => nomatch h) (Nat.le_of_ble_eq_true rfl) (Nat.le_of_ble_eq_true rfl)
    refine W.eq (g2 := F0 m 37 ls []) rfl ?_
    obtain ⟨rfl, ha1⟩ := hpa1 (by omega)
    have z1a : z1 = (a1 : Int) := by rw [← hz1]; exact nI_toInt (by omega)
    obtain ⟨rfl, ha2⟩ := hpa2 (by omega)
    have z2a : z2 = (a2 : Int) := by rw [← hz2]; exact nI_toInt (by omega)
    obtain ⟨rfl, ha3⟩ := hpa3 (by omega)
    have z3a : z3 = (a3 : Int) := by rw [← hz3]; exact nI_toInt (by omega)
    obtain ⟨rfl, ha4⟩ := hpa4 (by omega)
    have z4a : z4 = (a4 : Int) := by rw [← hz4]; exact nI_toInt (by omega)
    refine lv_iload_n hx hb dX0_begin_37 rfl (lv_at hl 3 rfl) ?_
    refine nk_if_ne (tgt := 45) hx hb (by omega) dX0_begin_38 (by decide) (fun c38 => ?_) (fun c38 => ?_)
    · exfalso; omega
    · refine lv_iload_n hx hb dX0_begin_41 rfl (lv_at hl 2 rfl) ?_
      refine lv_goto (tgt := 50) hx hb dX0_begin_42 (by decide) ?_
      refine lv_istore (lv' := [(5, .int (nI a2)), (0, .ref h0), (1, .int (nI a1)), (2, .int (nI a2)), (3, .int (nI a3)), (4, .int (nI a4))]) hx hb dX0_begin_50 hl (by decide) rfl (fun ls hl => ?_)
      refine lv_iload_n hx hb dX0_begin_52 rfl (lv_at hl 2 rfl) ?_
      refine lv_iload hx hb dX0_begin_53 (lv_at hl 0 rfl) ?_
      refine lv_aload_n hx hb dX0_begin_55 rfl (lv_at hl 1 rfl) ?_
      refine va_get (D := D) (ci := 0) (v := .int (nI d)) (C := RX0) (T := TX0) (N := 17) hx hb hts hin hown hK hP 0 rfl rfl 0 (by decide) f53 (fun _ h9 => h9) rfl dX0_begin_56 ?_
      refine lv_sipush (v := nI 365) hx hb dX0_begin_59 (by decide +kernel) ?_
      refine nk_idiv hx hb (by omega) (by decide) (by decide) dX0_begin_62 ?_
      refine nk_iadd hx hb dX0_begin_63 ?_
      refine nk_rd (W.runS (As := [.int (nI a1), .int (nI (a2 + (d / 365)))]) (rest := []) ⟨hx, hb, hml, hown, hts⟩ (c_X0_greatestLoan l a1 (a2 + (d / 365)) (by omega) (by omega) (by omega)) (va_cwS 2 hts gX0_begin_X0_greatestLoan rfl rfl rfl (by decide +kernel) ⟨Nat.le_of_ble_eq_true rfl, Nat.le_of_ble_eq_true rfl⟩) ⟨nk_P0.blind, fun U hU hW => ⟨rfl, trivial⟩⟩ rfl rfl hl.1 rfl (lv_room (Nat.le_of_ble_eq_true rfl)) dX0_begin_64 ⟨Nat.zero_le _, Nat.zero_le _⟩) ?_
      refine W.eq (g2 := F0 m 67 ls [.int (nI (gL a1 (a2 + (d / 365))))]) rfl ?_
      refine lv_istore (lv' := [(6, .int (nI (gL a1 (a2 + (d / 365))))), (5, .int (nI a2)), (0, .ref h0), (1, .int (nI a1)), (2, .int (nI a2)), (3, .int (nI a3)), (4, .int (nI a4))]) hx hb dX0_begin_67 hl (by decide) rfl (fun ls hl => ?_)
      have hg9 : gL a1 (a2 + d / 365) ≤ 5500000 := gL_le (by omega)
      refine lv_aload_n hx hb dX0_begin_69 rfl (lv_at hl 2 rfl) ?_
      refine nk_rd (W.runV (As := []) (rest := []) ⟨hx, hb, hml, hown, hts⟩ (c_X0_isBegun l D h0 h1 h2 h3 h4 h5 h6 h7 h8 h9 cI cJ d r lc bg w rm k pn fa e1 am dd rt b pd pt tp hlc) (cwV 0 hts gX0_begin_X0_isBegun rfl rfl rfl (by decide +kernel) ⟨Nat.le_of_ble_eq_true rfl, Nat.le_of_ble_eq_true rfl⟩) ⟨nk_Pr.blind, va_recv hK hP (ci := 0) (q0 := 0) rfl rfl, fun U hU hW => ⟨rfl, by rw [hU]; exact hP, va_K.moved hW.alike hK⟩⟩ rfl rfl hl.1 rfl (lv_room (Nat.le_of_ble_eq_true rfl)) dX0_begin_70 ⟨Nat.zero_le _, Nat.zero_le _⟩) ?_
      refine W.eq (g2 := F0 m 73 ls [.int (nI (if 0 < lc then 1 else 0))]) rfl ?_
      refine nk_bif_ne (tgt := 83) hx hb dX0_begin_73 (by decide) (fun c73 => ?_) (fun c73 => ?_)
      · exact vx_throwS (own := RX0) (cls := RIS) (names := ["java/lang/RuntimeException", "java/lang/Exception"]) (ik := 63) (is := 65) (ic := 67) (A := va_A (wX h0 h1 h2 h3 h4 h5 h6 h7 h8 h9 cI cJ d r lc bg w rm k pn fa e1 am dd rt b pd pt tp) s.heap.size) hx hb hfl hown (by decide +kernel) (by decide +kernel) (hts (.classLink RX0 63 RIS) (by decide +kernel)) (hts (.initialized RIS) (by decide +kernel)) hr65 a67 (by decide +kernel) hZ.1.1 hZ.1.2 hSz (hl.1.trans hml.symm) dX0_begin_83 dX0_begin_86 dX0_begin_87 dX0_begin_89 dX0_begin_92 (fun x h => (htab x h).elim) (Nat.le_of_ble_eq_true rfl) (Nat.le_of_ble_eq_true rfl) (Nat.le_of_ble_eq_true rfl) (Nat.le_of_ble_eq_true rfl) hlocks (fun t hvm hsz9 hk9 => ⟨(), trivial, Or.inr ⟨rfl, by omega, by omega⟩, hsz9, fun q h1 _ => hk9 q h1⟩) (fun z h => nomatch h) (Nat.le_of_ble_eq_true rfl) (Nat.le_of_ble_eq_true rfl)
      · refine lv_iload hx hb dX0_begin_76 (lv_at hl 6 rfl) ?_
        refine lv_iload hx hb dX0_begin_78 (lv_at hl 0 rfl) ?_
        refine nk_icmp_le (tgt := 93) hx hb (by omega) (by omega) dX0_begin_80 (by decide) (fun c80 => ?_) (fun c80 => ?_)
        · refine lv_aload_n hx hb dX0_begin_93 rfl (lv_at hl 2 rfl) ?_
          refine lv_iload_n hx hb dX0_begin_94 rfl (lv_at hl 4 rfl) ?_
          refine nk_vcall (wr := []) (va_runV (As := [.int (nI a2)]) (rest := []) ⟨hx, hb, hml, hown, hts⟩ (c_X0_addLife l D h0 h1 h2 h3 h4 h5 h6 h7 h8 h9 cI cJ d r lc bg w rm k pn fa e1 am dd rt b pd pt tp s.heap.size a2 (by omega)) (cwV 1 hts gX0_begin_X0_addLife rfl rfl rfl (by decide +kernel) ⟨Nat.le_of_ble_eq_true rfl, Nat.le_of_ble_eq_true rfl⟩) ⟨nk_Pw.blind, va_recv hK hP (ci := 0) (q0 := 0) rfl rfl, fun U hU hW => ⟨rfl, by rw [hU], by rw [hU]; exact hP, va_K.moved hW.alike hK, hD.weaken (fun _ _ _ _ => trivial)⟩⟩ rfl rfl hl.1 rfl (lv_room (Nat.le_of_ble_eq_true rfl)) dX0_begin_95 ⟨Nat.zero_le _, Nat.zero_le _⟩) hP hD hS hA [0, 1, 2, 3, 4, 5, 6, 7, 8, 9] [] rfl rfl rfl (by decide) (fun w1 H locs hw hP hD hS hk9 => ?_)
          subst hw
          have hP : va_P D vwCl (wX h0 h1 h2 h3 h4 h5 h6 h7 h8 h9 cI cJ d r (lc + 1) bg w rm k pn (va_up fa lc a2) (va_up e1 lc 0) am dd rt b pd pt tp) H := hP
          have hD : va_D A (wX h0 h1 h2 h3 h4 h5 h6 h7 h8 h9 cI cJ d r (lc + 1) bg w rm k pn (va_up fa lc a2) (va_up e1 lc 0) am dd rt b pd pt tp) := hD
          refine lv_iload_n hx hb dX0_begin_98 rfl (lv_at hl 5 rfl) ?_
          refine nk_if_eq (tgt := 107) hx hb (by omega) dX0_begin_99 (by decide) (fun c99 => ?_) (fun c99 => ?_)
          · refine lv_aload_n hx hb dX0_begin_107 rfl (lv_at hl 2 rfl) ?_
            refine lv_aload_n hx hb dX0_begin_108 rfl (lv_at hl 2 rfl) ?_
            refine va_get (D := D) (ci := 0) (v := .int (nI d)) (C := RX0) (T := TX0) (N := 17) hx hb hts hin hown hK hP 0 rfl rfl 0 (by decide) f53 (fun _ h9 => h9) rfl dX0_begin_109 ?_
            refine va_put (D := D) (ci := 0) (v := .int (nI d)) (ty := .int) (C := RX0) (T := TX0) (N := 17) hx hb hts hin tyX0 tyX0_ok nmX0 hown hK hP hD hS 0 rfl rfl 5 (by decide) f74 (fun _ h9 => h9) rfl (by decide +kernel) rfl rfl (Nat.le_of_ble_eq_true rfl) dX0_begin_112 (fun H locs hP hD hS => ?_)
            have hP : va_P D vwCl (wX h0 h1 h2 h3 h4 h5 h6 h7 h8 h9 cI cJ d r (lc + 1) d w rm k pn (va_up fa lc a2) (va_up e1 lc 0) am dd rt b pd pt tp) H := hP
            have hD : va_D A (wX h0 h1 h2 h3 h4 h5 h6 h7 h8 h9 cI cJ d r (lc + 1) d w rm k pn (va_up fa lc a2) (va_up e1 lc 0) am dd rt b pd pt tp) := hD
            refine lv_aload_n hx hb dX0_begin_115 rfl (lv_at hl 2 rfl) ?_
            refine lv_iload_n hx hb dX0_begin_116 rfl (lv_at hl 3 rfl) ?_
            refine va_put (D := D) (ci := 0) (v := .int (nI a1)) (ty := .int) (C := RX0) (T := TX0) (N := 17) hx hb hts hin tyX0 tyX0_ok nmX0 hown hK hP hD hS 0 rfl rfl 6 (by decide) f77 (fun _ h9 => h9) rfl (by decide +kernel) rfl rfl (Nat.le_of_ble_eq_true rfl) dX0_begin_117 (fun H locs hP hD hS => ?_)
            have hP : va_P D vwCl (wX h0 h1 h2 h3 h4 h5 h6 h7 h8 h9 cI cJ d r (lc + 1) d a1 rm k pn (va_up fa lc a2) (va_up e1 lc 0) am dd rt b pd pt tp) H := hP
            have hD : va_D A (wX h0 h1 h2 h3 h4 h5 h6 h7 h8 h9 cI cJ d r (lc + 1) d a1 rm k pn (va_up fa lc a2) (va_up e1 lc 0) am dd rt b pd pt tp) := hD
            refine lv_aload_n hx hb dX0_begin_120 rfl (lv_at hl 2 rfl) ?_
            refine lv_iload hx hb dX0_begin_121 (lv_at hl 0 rfl) ?_
            refine va_put (D := D) (ci := 0) (v := .int (nI (gL a1 (a2 + (d / 365))))) (ty := .int) (C := RX0) (T := TX0) (N := 17) hx hb hts hin tyX0 tyX0_ok nmX0 hown hK hP hD hS 0 rfl rfl 7 (by decide) f80 (fun _ h9 => h9) rfl (by decide +kernel) rfl rfl (Nat.le_of_ble_eq_true rfl) dX0_begin_123 (fun H locs hP hD hS => ?_)
            have hP : va_P D vwCl (wX h0 h1 h2 h3 h4 h5 h6 h7 h8 h9 cI cJ d r (lc + 1) d a1 (gL a1 (a2 + (d / 365))) k pn (va_up fa lc a2) (va_up e1 lc 0) am dd rt b pd pt tp) H := hP
            have hD : va_D A (wX h0 h1 h2 h3 h4 h5 h6 h7 h8 h9 cI cJ d r (lc + 1) d a1 (gL a1 (a2 + (d / 365))) k pn (va_up fa lc a2) (va_up e1 lc 0) am dd rt b pd pt tp) := hD
            refine lv_iload hx hb dX0_begin_126 (lv_at hl 6 rfl) ?_
            refine nk_if_le (tgt := 137) hx hb (by omega) dX0_begin_128 (by decide) (fun c128 => ?_) (fun c128 => ?_)
            · refine lv_aload_n hx hb dX0_begin_137 rfl (lv_at hl 2 rfl) ?_
              refine va_get (D := D) (ci := 0) (v := .int (nI (gL a1 (a2 + (d / 365))))) (C := RX0) (T := TX0) (N := 17) hx hb hts hin hown hK hP 0 rfl rfl 7 (by decide) f80 (fun _ h9 => h9) rfl dX0_begin_138 ?_
              refine vx_ret ?_
              refine W.widen (k := 1) (n := 6) (by decide) (by decide) ?_
              exact W.iret (v := (nI (gL a1 (a2 + (d / 365))))) hx hb hr (fun t ht hW => ⟨⟨(nI (gL a1 (a2 + (d / 365)))), wX h0 h1 h2 h3 h4 h5 h6 h7 h8 h9 cI cJ d r (lc + 1) d a1 (gL a1 (a2 + (d / 365))) k pn (va_up fa lc a2) (va_up e1 lc 0) am dd rt b pd pt tp, rfl, ⟨by omega, by omega, Or.inl ⟨by omega, by omega, by omega, rfl, rfl⟩⟩, by rw [ht]; exact hP, va_K.moved hW.alike hK, hD⟩, hS.F ht⟩) hS.2.2 dX0_begin_141
            · refine lv_aload_n hx hb dX0_begin_131 rfl (lv_at hl 2 rfl) ?_
              refine lv_iload hx hb dX0_begin_132 (lv_at hl 6 rfl) ?_
              refine nk_vcall (wr := []) (va_runV (As := [.int (nI a4)]) (rest := []) ⟨hx, hb, hml, hown, hts⟩ (c_X0_addDrawing l D h0 h1 h2 h3 h4 h5 h6 h7 h8 h9 cI cJ d r (lc + 1) d a1 (gL a1 (a2 + (d / 365))) k pn (va_up fa lc a2) (va_up e1 lc 0) am dd rt b pd pt tp H.size a4 (by omega) (by omega) (by omega)) (cwV 1 hts gX0_begin_X0_addDrawing rfl rfl rfl (by decide +kernel) ⟨Nat.le_of_ble_eq_true rfl, Nat.le_of_ble_eq_true rfl⟩) ⟨nk_Pw.blind, va_recv hK hP (ci := 0) (q0 := 0) rfl rfl, fun U hU hW => ⟨rfl, by rw [hU], by rw [hU]; exact hP, va_K.moved hW.alike hK, hD.weaken (fun _ _ _ _ => trivial)⟩⟩ rfl rfl hl.1 rfl (lv_room (Nat.le_of_ble_eq_true rfl)) dX0_begin_134 ⟨Nat.zero_le _, Nat.zero_le _⟩) hP hD hS hA [0, 1, 2, 3, 4, 5, 6, 7, 8, 9] [] rfl rfl rfl (by decide) (fun w1 H locs hw hP hD hS hk9 => ?_)
              subst hw
              have hP : va_P D vwCl (wX h0 h1 h2 h3 h4 h5 h6 h7 h8 h9 cI cJ d r (lc + 1) d a1 ((gL a1 (a2 + (d / 365))) - a4) (k + 1) pn (va_up fa lc a2) (va_up e1 lc 0) (va_up am k a4) (va_up dd k d) (va_up rt k r) (va_up b k (a4 * 10000)) pd pt tp) H := hP
              have hD : va_D A (wX h0 h1 h2 h3 h4 h5 h6 h7 h8 h9 cI cJ d r (lc + 1) d a1 ((gL a1 (a2 + (d / 365))) - a4) (k + 1) pn (va_up fa lc a2) (va_up e1 lc 0) (va_up am k a4) (va_up dd k d) (va_up rt k r) (va_up b k (a4 * 10000)) pd pt tp) := hD
              refine lv_aload_n hx hb dX0_begin_137 rfl (lv_at hl 2 rfl) ?_
              refine va_get (D := D) (ci := 0) (v := .int (nI ((gL a1 (a2 + (d / 365))) - a4))) (C := RX0) (T := TX0) (N := 17) hx hb hts hin hown hK hP 0 rfl rfl 7 (by decide) f80 (fun _ h9 => h9) rfl dX0_begin_138 ?_
              refine vx_ret ?_
              refine W.widen (k := 1) (n := 6) (by decide) (by decide) ?_
              exact W.iret (v := (nI ((gL a1 (a2 + (d / 365))) - a4))) hx hb hr (fun t ht hW => ⟨⟨(nI ((gL a1 (a2 + (d / 365))) - a4)), wX h0 h1 h2 h3 h4 h5 h6 h7 h8 h9 cI cJ d r (lc + 1) d a1 ((gL a1 (a2 + (d / 365))) - a4) (k + 1) pn (va_up fa lc a2) (va_up e1 lc 0) (va_up am k a4) (va_up dd k d) (va_up rt k r) (va_up b k (a4 * 10000)) pd pt tp, rfl, ⟨by omega, by omega, Or.inr (Or.inl ⟨by omega, by omega, by omega, rfl, rfl⟩)⟩, by rw [ht]; exact hP, va_K.moved hW.alike hK, hD⟩, hS.F ht⟩) hS.2.2 dX0_begin_141
          · exfalso; omega
        · exact vx_throwS (own := RX0) (cls := RIS) (names := ["java/lang/RuntimeException", "java/lang/Exception"]) (ik := 63) (is := 65) (ic := 67) (A := va_A (wX h0 h1 h2 h3 h4 h5 h6 h7 h8 h9 cI cJ d r lc bg w rm k pn fa e1 am dd rt b pd pt tp) s.heap.size) hx hb hfl hown (by decide +kernel) (by decide +kernel) (hts (.classLink RX0 63 RIS) (by decide +kernel)) (hts (.initialized RIS) (by decide +kernel)) hr65 a67 (by decide +kernel) hZ.1.1 hZ.1.2 hSz (hl.1.trans hml.symm) dX0_begin_83 dX0_begin_86 dX0_begin_87 dX0_begin_89 dX0_begin_92 (fun x h => (htab x h).elim) (Nat.le_of_ble_eq_true rfl) (Nat.le_of_ble_eq_true rfl) (Nat.le_of_ble_eq_true rfl) (Nat.le_of_ble_eq_true rfl) hlocks (fun t hvm hsz9 hk9 => ⟨(), trivial, Or.inr ⟨rfl, by omega, by omega⟩, hsz9, fun q h1 _ => hk9 q h1⟩) (fun z h => nomatch h) (Nat.le_of_ble_eq_true rfl) (Nat.le_of_ble_eq_true rfl)
  · refine lv_iload_n hx hb dX0_begin_21 rfl (lv_at hl 3 rfl) ?_
    refine lv_bipush (v := nI 55) hx hb dX0_begin_22 (by decide +kernel) ?_
    refine lv_bipush (v := nI 95) hx hb dX0_begin_24 (by decide +kernel) ?_
    refine nk_rdx (vx_runS (As := [.int p3, .int (nI 55), .int (nI 95)]) (rest := []) ⟨hx, hb, hml, hown, hts⟩ (c_X0_requireWithin l hfl s.heap.size p3 z3 55 95 hz3 (by decide) (by decide)) (va_cwS 3 hts gX0_begin_X0_requireWithin rfl rfl rfl (by decide +kernel) ⟨Nat.le_of_ble_eq_true rfl, Nat.le_of_ble_eq_true rfl⟩) ⟨nk_Ps.blind, fun U hU hW => ⟨rfl, by rw [hU], by rw [hU]; exact nk_Z.go hZ hW (fun q h => Or.inr h)⟩⟩ rfl rfl hl.1 rfl (lv_room (Nat.le_of_ble_eq_true rfl)) dX0_begin_26 ⟨Nat.le_of_ble_eq_true rfl, Nat.le_of_ble_eq_true rfl⟩) hS hA (fun E ce q9 H1 hE hz hk9 hS1 hce hcv hcl => ?_) (fun hok26 => ?_)
    · exact vx_out (fun x h => (htab x h).elim) hlocks hce hcv hcl (fun t ht hW => ⟨(), trivial, Or.inl ⟨hE.1, by have := hE.2; omega⟩, by rw [ht]; exact hz, fun q h1 _ => by rw [ht]; exact hk9 q h1⟩) (fun z h => nomatch h) (Nat.le_of_ble_eq_true rfl) (Nat.le_of_ble_eq_true rfl)
    refine W.eq (g2 := F0 m 29 ls []) rfl ?_
    refine lv_iload hx hb dX0_begin_29 (lv_at hl 4 rfl) ?_
    refine lv_iconst (v := nI 0) hx hb dX0_begin_31 (by decide +kernel) ?_
    refine lv_ldc (v := nI 10000000) hx hb hown k42 dX0_begin_32 ?_
    refine nk_rdx (vx_runS (As := [.int p4, .int (nI 0), .int (nI 10000000)]) (rest := []) ⟨hx, hb, hml, hown, hts⟩ (c_X0_requireWithin l hfl s.heap.size p4 z4 0 10000000 hz4 (by decide) (by decide)) (va_cwS 3 hts gX0_begin_X0_requireWithin rfl rfl rfl (by decide +kernel) ⟨Nat.le_of_ble_eq_true rfl, Nat.le_of_ble_eq_true rfl⟩) ⟨nk_Ps.blind, fun U hU hW => ⟨rfl, by rw [hU], by rw [hU]; exact nk_Z.go hZ hW (fun q h => Or.inr h)⟩⟩ rfl rfl hl.1 rfl (lv_room (Nat.le_of_ble_eq_true rfl)) dX0_begin_34 ⟨Nat.le_of_ble_eq_true rfl, Nat.le_of_ble_eq_true rfl⟩) hS hA (fun E ce q9 H1 hE hz hk9 hS1 hce hcv hcl => ?_) (fun hok34 => ?_)
    · exact vx_out (fun x h => (htab x h).elim) hlocks hce hcv hcl (fun t ht hW => ⟨(), trivial, Or.inl ⟨hE.1, by have := hE.2; omega⟩, by rw [ht]; exact hz, fun q h1 _ => by rw [ht]; exact hk9 q h1⟩) (fun z h => nomatch h) (Nat.le_of_ble_eq_true rfl) (Nat.le_of_ble_eq_true rfl)
    refine W.eq (g2 := F0 m 37 ls []) rfl ?_
    obtain ⟨rfl, ha1⟩ := hpa1 (by omega)
    have z1a : z1 = (a1 : Int) := by rw [← hz1]; exact nI_toInt (by omega)
    obtain ⟨rfl, ha2⟩ := hpa2 (by omega)
    have z2a : z2 = (a2 : Int) := by rw [← hz2]; exact nI_toInt (by omega)
    obtain ⟨rfl, ha3⟩ := hpa3 (by omega)
    have z3a : z3 = (a3 : Int) := by rw [← hz3]; exact nI_toInt (by omega)
    obtain ⟨rfl, ha4⟩ := hpa4 (by omega)
    have z4a : z4 = (a4 : Int) := by rw [← hz4]; exact nI_toInt (by omega)
    refine lv_iload_n hx hb dX0_begin_37 rfl (lv_at hl 3 rfl) ?_
    refine nk_if_ne (tgt := 45) hx hb (by omega) dX0_begin_38 (by decide) (fun c38 => ?_) (fun c38 => ?_)
    · refine lv_iload_n hx hb dX0_begin_45 rfl (lv_at hl 2 rfl) ?_
      refine lv_iload_n hx hb dX0_begin_46 rfl (lv_at hl 3 rfl) ?_
      refine va_mmin hx hb (hml.trans hl.1.symm) hown (hts (.methodLink RX0 47 Lib.Math.min.name) (by decide +kernel)) (hts (.static Lib.Math.min.name) (by decide +kernel)) (hts (.initialized "java/lang/Math") (by decide +kernel)) (hts (.code Lib.Math.min.name Lib.Math.min.code 2 (some .int)) (by decide +kernel)) (Nat.le_of_ble_eq_true rfl) (Nat.le_of_ble_eq_true rfl) (Nat.zero_le _) (Nat.zero_le _) dX0_begin_47 ?_
      refine nk_topi (y := (nI (min a2 a3))) (nk_min (by omega) (by omega)) ?_
      refine lv_istore (lv' := [(5, .int (nI (min a2 a3))), (0, .ref h0), (1, .int (nI a1)), (2, .int (nI a2)), (3, .int (nI a3)), (4, .int (nI a4))]) hx hb dX0_begin_50 hl (by decide) rfl (fun ls hl => ?_)
      refine lv_iload_n hx hb dX0_begin_52 rfl (lv_at hl 2 rfl) ?_
      refine lv_iload hx hb dX0_begin_53 (lv_at hl 0 rfl) ?_
      refine lv_aload_n hx hb dX0_begin_55 rfl (lv_at hl 1 rfl) ?_
      refine va_get (D := D) (ci := 0) (v := .int (nI d)) (C := RX0) (T := TX0) (N := 17) hx hb hts hin hown hK hP 0 rfl rfl 0 (by decide) f53 (fun _ h9 => h9) rfl dX0_begin_56 ?_
      refine lv_sipush (v := nI 365) hx hb dX0_begin_59 (by decide +kernel) ?_
      refine nk_idiv hx hb (by omega) (by decide) (by decide) dX0_begin_62 ?_
      refine nk_iadd hx hb dX0_begin_63 ?_
      refine nk_rd (W.runS (As := [.int (nI a1), .int (nI ((min a2 a3) + (d / 365)))]) (rest := []) ⟨hx, hb, hml, hown, hts⟩ (c_X0_greatestLoan l a1 ((min a2 a3) + (d / 365)) (by omega) (by omega) (by omega)) (va_cwS 2 hts gX0_begin_X0_greatestLoan rfl rfl rfl (by decide +kernel) ⟨Nat.le_of_ble_eq_true rfl, Nat.le_of_ble_eq_true rfl⟩) ⟨nk_P0.blind, fun U hU hW => ⟨rfl, trivial⟩⟩ rfl rfl hl.1 rfl (lv_room (Nat.le_of_ble_eq_true rfl)) dX0_begin_64 ⟨Nat.zero_le _, Nat.zero_le _⟩) ?_
      refine W.eq (g2 := F0 m 67 ls [.int (nI (gL a1 ((min a2 a3) + (d / 365))))]) rfl ?_
      refine lv_istore (lv' := [(6, .int (nI (gL a1 ((min a2 a3) + (d / 365))))), (5, .int (nI (min a2 a3))), (0, .ref h0), (1, .int (nI a1)), (2, .int (nI a2)), (3, .int (nI a3)), (4, .int (nI a4))]) hx hb dX0_begin_67 hl (by decide) rfl (fun ls hl => ?_)
      have hg9 : gL a1 (min a2 a3 + d / 365) ≤ 5500000 := gL_le (by omega)
      refine lv_aload_n hx hb dX0_begin_69 rfl (lv_at hl 2 rfl) ?_
      refine nk_rd (W.runV (As := []) (rest := []) ⟨hx, hb, hml, hown, hts⟩ (c_X0_isBegun l D h0 h1 h2 h3 h4 h5 h6 h7 h8 h9 cI cJ d r lc bg w rm k pn fa e1 am dd rt b pd pt tp hlc) (cwV 0 hts gX0_begin_X0_isBegun rfl rfl rfl (by decide +kernel) ⟨Nat.le_of_ble_eq_true rfl, Nat.le_of_ble_eq_true rfl⟩) ⟨nk_Pr.blind, va_recv hK hP (ci := 0) (q0 := 0) rfl rfl, fun U hU hW => ⟨rfl, by rw [hU]; exact hP, va_K.moved hW.alike hK⟩⟩ rfl rfl hl.1 rfl (lv_room (Nat.le_of_ble_eq_true rfl)) dX0_begin_70 ⟨Nat.zero_le _, Nat.zero_le _⟩) ?_
      refine W.eq (g2 := F0 m 73 ls [.int (nI (if 0 < lc then 1 else 0))]) rfl ?_
      refine nk_bif_ne (tgt := 83) hx hb dX0_begin_73 (by decide) (fun c73 => ?_) (fun c73 => ?_)
      · exact vx_throwS (own := RX0) (cls := RIS) (names := ["java/lang/RuntimeException", "java/lang/Exception"]) (ik := 63) (is := 65) (ic := 67) (A := va_A (wX h0 h1 h2 h3 h4 h5 h6 h7 h8 h9 cI cJ d r lc bg w rm k pn fa e1 am dd rt b pd pt tp) s.heap.size) hx hb hfl hown (by decide +kernel) (by decide +kernel) (hts (.classLink RX0 63 RIS) (by decide +kernel)) (hts (.initialized RIS) (by decide +kernel)) hr65 a67 (by decide +kernel) hZ.1.1 hZ.1.2 hSz (hl.1.trans hml.symm) dX0_begin_83 dX0_begin_86 dX0_begin_87 dX0_begin_89 dX0_begin_92 (fun x h => (htab x h).elim) (Nat.le_of_ble_eq_true rfl) (Nat.le_of_ble_eq_true rfl) (Nat.le_of_ble_eq_true rfl) (Nat.le_of_ble_eq_true rfl) hlocks (fun t hvm hsz9 hk9 => ⟨(), trivial, Or.inr ⟨rfl, by omega, by omega⟩, hsz9, fun q h1 _ => hk9 q h1⟩) (fun z h => nomatch h) (Nat.le_of_ble_eq_true rfl) (Nat.le_of_ble_eq_true rfl)
      · refine lv_iload hx hb dX0_begin_76 (lv_at hl 6 rfl) ?_
        refine lv_iload hx hb dX0_begin_78 (lv_at hl 0 rfl) ?_
        refine nk_icmp_le (tgt := 93) hx hb (by omega) (by omega) dX0_begin_80 (by decide) (fun c80 => ?_) (fun c80 => ?_)
        · refine lv_aload_n hx hb dX0_begin_93 rfl (lv_at hl 2 rfl) ?_
          refine lv_iload_n hx hb dX0_begin_94 rfl (lv_at hl 4 rfl) ?_
          refine nk_vcall (wr := []) (va_runV (As := [.int (nI a2)]) (rest := []) ⟨hx, hb, hml, hown, hts⟩ (c_X0_addLife l D h0 h1 h2 h3 h4 h5 h6 h7 h8 h9 cI cJ d r lc bg w rm k pn fa e1 am dd rt b pd pt tp s.heap.size a2 (by omega)) (cwV 1 hts gX0_begin_X0_addLife rfl rfl rfl (by decide +kernel) ⟨Nat.le_of_ble_eq_true rfl, Nat.le_of_ble_eq_true rfl⟩) ⟨nk_Pw.blind, va_recv hK hP (ci := 0) (q0 := 0) rfl rfl, fun U hU hW => ⟨rfl, by rw [hU], by rw [hU]; exact hP, va_K.moved hW.alike hK, hD.weaken (fun _ _ _ _ => trivial)⟩⟩ rfl rfl hl.1 rfl (lv_room (Nat.le_of_ble_eq_true rfl)) dX0_begin_95 ⟨Nat.zero_le _, Nat.zero_le _⟩) hP hD hS hA [0, 1, 2, 3, 4, 5, 6, 7, 8, 9] [] rfl rfl rfl (by decide) (fun w1 H locs hw hP hD hS hk9 => ?_)
          subst hw
          have hP : va_P D vwCl (wX h0 h1 h2 h3 h4 h5 h6 h7 h8 h9 cI cJ d r (lc + 1) bg w rm k pn (va_up fa lc a2) (va_up e1 lc 0) am dd rt b pd pt tp) H := hP
          have hD : va_D A (wX h0 h1 h2 h3 h4 h5 h6 h7 h8 h9 cI cJ d r (lc + 1) bg w rm k pn (va_up fa lc a2) (va_up e1 lc 0) am dd rt b pd pt tp) := hD
          refine lv_iload_n hx hb dX0_begin_98 rfl (lv_at hl 5 rfl) ?_
          refine nk_if_eq (tgt := 107) hx hb (by omega) dX0_begin_99 (by decide) (fun c99 => ?_) (fun c99 => ?_)
          · exfalso; omega
          · refine lv_aload_n hx hb dX0_begin_102 rfl (lv_at hl 2 rfl) ?_
            refine lv_iload_n hx hb dX0_begin_103 rfl (lv_at hl 5 rfl) ?_
            refine nk_vcall (wr := []) (va_runV (As := [.int (nI a3)]) (rest := []) ⟨hx, hb, hml, hown, hts⟩ (c_X0_addLife l D h0 h1 h2 h3 h4 h5 h6 h7 h8 h9 cI cJ d r (lc + 1) bg w rm k pn (va_up fa lc a2) (va_up e1 lc 0) am dd rt b pd pt tp H.size a3 (by omega)) (cwV 1 hts gX0_begin_X0_addLife rfl rfl rfl (by decide +kernel) ⟨Nat.le_of_ble_eq_true rfl, Nat.le_of_ble_eq_true rfl⟩) ⟨nk_Pw.blind, va_recv hK hP (ci := 0) (q0 := 0) rfl rfl, fun U hU hW => ⟨rfl, by rw [hU], by rw [hU]; exact hP, va_K.moved hW.alike hK, hD.weaken (fun _ _ _ _ => trivial)⟩⟩ rfl rfl hl.1 rfl (lv_room (Nat.le_of_ble_eq_true rfl)) dX0_begin_104 ⟨Nat.zero_le _, Nat.zero_le _⟩) hP hD hS hA [0, 1, 2, 3, 4, 5, 6, 7, 8, 9] [] rfl rfl rfl (by decide) (fun w1 H locs hw hP hD hS hk9 => ?_)
            subst hw
            have hP : va_P D vwCl (wX h0 h1 h2 h3 h4 h5 h6 h7 h8 h9 cI cJ d r (lc + 1 + 1) bg w rm k pn (va_up (va_up fa lc a2) (lc + 1) a3) (va_up (va_up e1 lc 0) (lc + 1) 0) am dd rt b pd pt tp) H := hP
            have hD : va_D A (wX h0 h1 h2 h3 h4 h5 h6 h7 h8 h9 cI cJ d r (lc + 1 + 1) bg w rm k pn (va_up (va_up fa lc a2) (lc + 1) a3) (va_up (va_up e1 lc 0) (lc + 1) 0) am dd rt b pd pt tp) := hD
            refine lv_aload_n hx hb dX0_begin_107 rfl (lv_at hl 2 rfl) ?_
            refine lv_aload_n hx hb dX0_begin_108 rfl (lv_at hl 2 rfl) ?_
            refine va_get (D := D) (ci := 0) (v := .int (nI d)) (C := RX0) (T := TX0) (N := 17) hx hb hts hin hown hK hP 0 rfl rfl 0 (by decide) f53 (fun _ h9 => h9) rfl dX0_begin_109 ?_
            refine va_put (D := D) (ci := 0) (v := .int (nI d)) (ty := .int) (C := RX0) (T := TX0) (N := 17) hx hb hts hin tyX0 tyX0_ok nmX0 hown hK hP hD hS 0 rfl rfl 5 (by decide) f74 (fun _ h9 => h9) rfl (by decide +kernel) rfl rfl (Nat.le_of_ble_eq_true rfl) dX0_begin_112 (fun H locs hP hD hS => ?_)
            have hP : va_P D vwCl (wX h0 h1 h2 h3 h4 h5 h6 h7 h8 h9 cI cJ d r (lc + 1 + 1) d w rm k pn (va_up (va_up fa lc a2) (lc + 1) a3) (va_up (va_up e1 lc 0) (lc + 1) 0) am dd rt b pd pt tp) H := hP
            have hD : va_D A (wX h0 h1 h2 h3 h4 h5 h6 h7 h8 h9 cI cJ d r (lc + 1 + 1) d w rm k pn (va_up (va_up fa lc a2) (lc + 1) a3) (va_up (va_up e1 lc 0) (lc + 1) 0) am dd rt b pd pt tp) := hD
            refine lv_aload_n hx hb dX0_begin_115 rfl (lv_at hl 2 rfl) ?_
            refine lv_iload_n hx hb dX0_begin_116 rfl (lv_at hl 3 rfl) ?_
            refine va_put (D := D) (ci := 0) (v := .int (nI a1)) (ty := .int) (C := RX0) (T := TX0) (N := 17) hx hb hts hin tyX0 tyX0_ok nmX0 hown hK hP hD hS 0 rfl rfl 6 (by decide) f77 (fun _ h9 => h9) rfl (by decide +kernel) rfl rfl (Nat.le_of_ble_eq_true rfl) dX0_begin_117 (fun H locs hP hD hS => ?_)
            have hP : va_P D vwCl (wX h0 h1 h2 h3 h4 h5 h6 h7 h8 h9 cI cJ d r (lc + 1 + 1) d a1 rm k pn (va_up (va_up fa lc a2) (lc + 1) a3) (va_up (va_up e1 lc 0) (lc + 1) 0) am dd rt b pd pt tp) H := hP
            have hD : va_D A (wX h0 h1 h2 h3 h4 h5 h6 h7 h8 h9 cI cJ d r (lc + 1 + 1) d a1 rm k pn (va_up (va_up fa lc a2) (lc + 1) a3) (va_up (va_up e1 lc 0) (lc + 1) 0) am dd rt b pd pt tp) := hD
            refine lv_aload_n hx hb dX0_begin_120 rfl (lv_at hl 2 rfl) ?_
            refine lv_iload hx hb dX0_begin_121 (lv_at hl 0 rfl) ?_
            refine va_put (D := D) (ci := 0) (v := .int (nI (gL a1 ((min a2 a3) + (d / 365))))) (ty := .int) (C := RX0) (T := TX0) (N := 17) hx hb hts hin tyX0 tyX0_ok nmX0 hown hK hP hD hS 0 rfl rfl 7 (by decide) f80 (fun _ h9 => h9) rfl (by decide +kernel) rfl rfl (Nat.le_of_ble_eq_true rfl) dX0_begin_123 (fun H locs hP hD hS => ?_)
            have hP : va_P D vwCl (wX h0 h1 h2 h3 h4 h5 h6 h7 h8 h9 cI cJ d r (lc + 1 + 1) d a1 (gL a1 ((min a2 a3) + (d / 365))) k pn (va_up (va_up fa lc a2) (lc + 1) a3) (va_up (va_up e1 lc 0) (lc + 1) 0) am dd rt b pd pt tp) H := hP
            have hD : va_D A (wX h0 h1 h2 h3 h4 h5 h6 h7 h8 h9 cI cJ d r (lc + 1 + 1) d a1 (gL a1 ((min a2 a3) + (d / 365))) k pn (va_up (va_up fa lc a2) (lc + 1) a3) (va_up (va_up e1 lc 0) (lc + 1) 0) am dd rt b pd pt tp) := hD
            refine lv_iload hx hb dX0_begin_126 (lv_at hl 6 rfl) ?_
            refine nk_if_le (tgt := 137) hx hb (by omega) dX0_begin_128 (by decide) (fun c128 => ?_) (fun c128 => ?_)
            · refine lv_aload_n hx hb dX0_begin_137 rfl (lv_at hl 2 rfl) ?_
              refine va_get (D := D) (ci := 0) (v := .int (nI (gL a1 ((min a2 a3) + (d / 365))))) (C := RX0) (T := TX0) (N := 17) hx hb hts hin hown hK hP 0 rfl rfl 7 (by decide) f80 (fun _ h9 => h9) rfl dX0_begin_138 ?_
              refine vx_ret ?_
              refine W.widen (k := 1) (n := 6) (by decide) (by decide) ?_
              exact W.iret (v := (nI (gL a1 ((min a2 a3) + (d / 365))))) hx hb hr (fun t ht hW => ⟨⟨(nI (gL a1 ((min a2 a3) + (d / 365)))), wX h0 h1 h2 h3 h4 h5 h6 h7 h8 h9 cI cJ d r (lc + 1 + 1) d a1 (gL a1 ((min a2 a3) + (d / 365))) k pn (va_up (va_up fa lc a2) (lc + 1) a3) (va_up (va_up e1 lc 0) (lc + 1) 0) am dd rt b pd pt tp, rfl, ⟨by omega, by omega, Or.inr (Or.inr (Or.inl ⟨by omega, by omega, by omega, rfl, rfl⟩))⟩, by rw [ht]; exact hP, va_K.moved hW.alike hK, hD⟩, hS.F ht⟩) hS.2.2 dX0_begin_141
            · refine lv_aload_n hx hb dX0_begin_131 rfl (lv_at hl 2 rfl) ?_
              refine lv_iload hx hb dX0_begin_132 (lv_at hl 6 rfl) ?_
              refine nk_vcall (wr := []) (va_runV (As := [.int (nI a4)]) (rest := []) ⟨hx, hb, hml, hown, hts⟩ (c_X0_addDrawing l D h0 h1 h2 h3 h4 h5 h6 h7 h8 h9 cI cJ d r (lc + 1 + 1) d a1 (gL a1 ((min a2 a3) + (d / 365))) k pn (va_up (va_up fa lc a2) (lc + 1) a3) (va_up (va_up e1 lc 0) (lc + 1) 0) am dd rt b pd pt tp H.size a4 (by omega) (by omega) (by omega)) (cwV 1 hts gX0_begin_X0_addDrawing rfl rfl rfl (by decide +kernel) ⟨Nat.le_of_ble_eq_true rfl, Nat.le_of_ble_eq_true rfl⟩) ⟨nk_Pw.blind, va_recv hK hP (ci := 0) (q0 := 0) rfl rfl, fun U hU hW => ⟨rfl, by rw [hU], by rw [hU]; exact hP, va_K.moved hW.alike hK, hD.weaken (fun _ _ _ _ => trivial)⟩⟩ rfl rfl hl.1 rfl (lv_room (Nat.le_of_ble_eq_true rfl)) dX0_begin_134 ⟨Nat.zero_le _, Nat.zero_le _⟩) hP hD hS hA [0, 1, 2, 3, 4, 5, 6, 7, 8, 9] [] rfl rfl rfl (by decide) (fun w1 H locs hw hP hD hS hk9 => ?_)
              subst hw
              have hP : va_P D vwCl (wX h0 h1 h2 h3 h4 h5 h6 h7 h8 h9 cI cJ d r (lc + 1 + 1) d a1 ((gL a1 ((min a2 a3) + (d / 365))) - a4) (k + 1) pn (va_up (va_up fa lc a2) (lc + 1) a3) (va_up (va_up e1 lc 0) (lc + 1) 0) (va_up am k a4) (va_up dd k d) (va_up rt k r) (va_up b k (a4 * 10000)) pd pt tp) H := hP
              have hD : va_D A (wX h0 h1 h2 h3 h4 h5 h6 h7 h8 h9 cI cJ d r (lc + 1 + 1) d a1 ((gL a1 ((min a2 a3) + (d / 365))) - a4) (k + 1) pn (va_up (va_up fa lc a2) (lc + 1) a3) (va_up (va_up e1 lc 0) (lc + 1) 0) (va_up am k a4) (va_up dd k d) (va_up rt k r) (va_up b k (a4 * 10000)) pd pt tp) := hD
              refine lv_aload_n hx hb dX0_begin_137 rfl (lv_at hl 2 rfl) ?_
              refine va_get (D := D) (ci := 0) (v := .int (nI ((gL a1 ((min a2 a3) + (d / 365))) - a4))) (C := RX0) (T := TX0) (N := 17) hx hb hts hin hown hK hP 0 rfl rfl 7 (by decide) f80 (fun _ h9 => h9) rfl dX0_begin_138 ?_
              refine vx_ret ?_
              refine W.widen (k := 1) (n := 6) (by decide) (by decide) ?_
              exact W.iret (v := (nI ((gL a1 ((min a2 a3) + (d / 365))) - a4))) hx hb hr (fun t ht hW => ⟨⟨(nI ((gL a1 ((min a2 a3) + (d / 365))) - a4)), wX h0 h1 h2 h3 h4 h5 h6 h7 h8 h9 cI cJ d r (lc + 1 + 1) d a1 ((gL a1 ((min a2 a3) + (d / 365))) - a4) (k + 1) pn (va_up (va_up fa lc a2) (lc + 1) a3) (va_up (va_up e1 lc 0) (lc + 1) 0) (va_up am k a4) (va_up dd k d) (va_up rt k r) (va_up b k (a4 * 10000)) pd pt tp, rfl, ⟨by omega, by omega, Or.inr (Or.inr (Or.inr (⟨by omega, by omega, by omega, rfl, rfl⟩)))⟩, by rw [ht]; exact hP, va_K.moved hW.alike hK, hD⟩, hS.F ht⟩) hS.2.2 dX0_begin_141
        · exact vx_throwS (own := RX0) (cls := RIS) (names := ["java/lang/RuntimeException", "java/lang/Exception"]) (ik := 63) (is := 65) (ic := 67) (A := va_A (wX h0 h1 h2 h3 h4 h5 h6 h7 h8 h9 cI cJ d r lc bg w rm k pn fa e1 am dd rt b pd pt tp) s.heap.size) hx hb hfl hown (by decide +kernel) (by decide +kernel) (hts (.classLink RX0 63 RIS) (by decide +kernel)) (hts (.initialized RIS) (by decide +kernel)) hr65 a67 (by decide +kernel) hZ.1.1 hZ.1.2 hSz (hl.1.trans hml.symm) dX0_begin_83 dX0_begin_86 dX0_begin_87 dX0_begin_89 dX0_begin_92 (fun x h => (htab x h).elim) (Nat.le_of_ble_eq_true rfl) (Nat.le_of_ble_eq_true rfl) (Nat.le_of_ble_eq_true rfl) (Nat.le_of_ble_eq_true rfl) hlocks (fun t hvm hsz9 hk9 => ⟨(), trivial, Or.inr ⟨rfl, by omega, by omega⟩, hsz9, fun q h1 _ => hk9 q h1⟩) (fun z h => nomatch h) (Nat.le_of_ble_eq_true rfl) (Nat.le_of_ble_eq_true rfl)
    · exfalso; omega
