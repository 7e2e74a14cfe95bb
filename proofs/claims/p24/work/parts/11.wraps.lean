set_option maxHeartbeats 4000000 in
set_option maxRecDepth 100000 in
theorem c_L_begin (l : Launch) (hfl : l.stackTraces = false) (D : va_G) (h0 h1 h2 h3 h4 h5 h6 h7 h8 h9 : Nat) (cI cJ : ClassId) (d r lc bg w rm k pn : Nat) (fa e1 am dd rt b pd pt tp : Nat → Nat) (sz : Nat) (p1 p2 p3 p4 : Int32) (z1 z2 z3 z4 : Int) (a1 a2 a3 a4 : Nat) (hz1 : p1.toInt = z1) (hpa1 : 0 ≤ z1 → p1 = nI a1 ∧ a1 < 2147483648) (hz2 : p2.toInt = z2) (hpa2 : 0 ≤ z2 → p2 = nI a2 ∧ a2 < 2147483648) (hz3 : p3.toInt = z3) (hpa3 : 0 ≤ z3 → p3 = nI a3 ∧ a3 < 2147483648) (hz4 : p4.toInt = z4) (hpa4 : 0 ≤ z4 → p4 = nI a4 ∧ a4 < 2147483648) (hlc : lc ≤ 2) (hd : d ≤ 15000) (hk0 : lc = 0 → k = 0) (hrg : ((1000 ≤ z1 ∧ z1 ≤ 10000000) ∧ (55 ≤ z2 ∧ z2 ≤ 95) ∧ (z3 = 0 ∨ (55 ≤ z3 ∧ z3 ≤ 95)) ∧ (0 ≤ z4 ∧ z4 ≤ 10000000))) : Met l yL_begin wsL_begin { frames := 8, cells := 1, slots := 6, locals := 140 } (nk_Px D (wX h0 h1 h2 h3 h4 h5 h6 h7 h8 h9 cI cJ d r lc bg w rm k pn fa e1 am dd rt b pd pt tp) (tX cI cJ) sz [.ref h0, .int p1, .int p2, .int p3, .int p4]) (va_Qi (fun r9 w1 => ((fun r9 w1 => ((1000 ≤ z1 ∧ z1 ≤ 10000000) ∧ (55 ≤ z2 ∧ z2 ≤ 95) ∧ (z3 = 0 ∨ (55 ≤ z3 ∧ z3 ≤ 95)) ∧ (0 ≤ z4 ∧ z4 ≤ 10000000)) ∧ lc = 0 ∧ ((a3 = 0 ∧ a4 = 0 ∧ a4 ≤ gL a1 (a2 + d / 365) ∧ r9 = nI (gL a1 (a2 + d / 365)) ∧ w1 = wX h0 h1 h2 h3 h4 h5 h6 h7 h8 h9 cI cJ d r (lc + 1) d a1 (gL a1 (a2 + d / 365)) k pn (va_up fa lc a2) (va_up e1 lc 0) am dd rt b pd pt tp) ∨ (a3 = 0 ∧ 0 < a4 ∧ a4 ≤ gL a1 (a2 + d / 365) ∧ r9 = nI (gL a1 (a2 + d / 365) - a4) ∧ w1 = wX h0 h1 h2 h3 h4 h5 h6 h7 h8 h9 cI cJ d r (lc + 1) d a1 (gL a1 (a2 + d / 365) - a4) (k + 1) pn (va_up fa lc a2) (va_up e1 lc 0) (va_up am k a4) (va_up dd k d) (va_up rt k r) (va_up b k (a4 * 10000)) pd pt tp) ∨ (0 < a3 ∧ a4 = 0 ∧ a4 ≤ gL a1 (min a2 a3 + d / 365) ∧ r9 = nI (gL a1 (min a2 a3 + d / 365)) ∧ w1 = wX h0 h1 h2 h3 h4 h5 h6 h7 h8 h9 cI cJ d r (lc + 1 + 1) d a1 (gL a1 (min a2 a3 + d / 365)) k pn (va_up (va_up fa lc a2) (lc + 1) a3) (va_up (va_up e1 lc 0) (lc + 1) 0) am dd rt b pd pt tp) ∨ (0 < a3 ∧ 0 < a4 ∧ a4 ≤ gL a1 (min a2 a3 + d / 365) ∧ r9 = nI (gL a1 (min a2 a3 + d / 365) - a4) ∧ w1 = wX h0 h1 h2 h3 h4 h5 h6 h7 h8 h9 cI cJ d r (lc + 1 + 1) d a1 (gL a1 (min a2 a3 + d / 365) - a4) (k + 1) pn (va_up (va_up fa lc a2) (lc + 1) a3) (va_up (va_up e1 lc 0) (lc + 1) 0) (va_up am k a4) (va_up dd k d) (va_up rt k r) (va_up b k (a4 * 10000)) pd pt tp))) r9 w1) ∨ (r9 = -3 ∧ (((1000 ≤ z1 ∧ z1 ≤ 10000000) ∧ (55 ≤ z2 ∧ z2 ≤ 95) ∧ (z3 = 0 ∨ (55 ≤ z3 ∧ z3 ≤ 95)) ∧ (0 ≤ z4 ∧ z4 ≤ 10000000)) ∧ (0 < lc ∨ (a3 = 0 ∧ gL a1 (a2 + d / 365) < a4) ∨ (0 < a3 ∧ gL a1 (min a2 a3 + d / 365) < a4))) ∧ w1 = wX h0 h1 h2 h3 h4 h5 h6 h7 h8 h9 cI cJ d r lc bg w rm k pn fa e1 am dd rt b pd pt tp)) (fun w1 t => nk_At D (tX cI cJ) (va_A (wX h0 h1 h2 h3 h4 h5 h6 h7 h8 h9 cI cJ d r lc bg w rm k pn fa e1 am dd rt b pd pt tp) sz) w1 t) (va_A (wX h0 h1 h2 h3 h4 h5 h6 h7 h8 h9 cI cJ d r lc bg w rm k pn fa e1 am dd rt b pd pt tp) sz)) 1 6 (va_A (wX h0 h1 h2 h3 h4 h5 h6 h7 h8 h9 cI cJ d r lc bg w rm k pn fa e1 am dd rt b pd pt tp) sz) := by
  refine va_MetW (cc := cL_begin) (maxL := 6) (ret := (some .int)) (hh := [(0, 9, 10, 15)]) (by decide) rfl ?_
  intro p e s m args below meth c s₁ B hml hv
  obtain ⟨hargs, hsz, hP, hK, hD0, hZ⟩ := hv
  have hx := B.exec
  have hb := B.bytes
  have hr := B.returns
  have hts := atoms_spec (ws := wsL_begin) B.pre
  have hown : s.vm.findClass RL = some m.cls := findClass_of_methodNamed B.named
  have hlocks := B.notSynchronized
  have htb : c.exceptionTable.toList = tableOf [(0, 9, 10, 15)] := vx_table (x := yL_begin) B (hts (.codeWith yL_begin cL_begin 6 (some .int) [(0, 9, 10, 15)]) (by unfold wsL_begin; exact List.mem_cons_self))
  subst hsz
  have hD := hD0.self (sz := s.heap.size)
  have hZn : ∀ q, va_A (wX h0 h1 h2 h3 h4 h5 h6 h7 h8 h9 cI cJ d r lc bg w rm k pn fa e1 am dd rt b pd pt tp) s.heap.size q → va_A (wX h0 h1 h2 h3 h4 h5 h6 h7 h8 h9 cI cJ d r lc bg w rm k pn fa e1 am dd rt b pd pt tp) s.heap.size q := fun q h => h
  generalize hAe : va_A (wX h0 h1 h2 h3 h4 h5 h6 h7 h8 h9 cI cJ d r lc bg w rm k pn fa e1 am dd rt b pd pt tp) s.heap.size = A at hD ⊢
  have hA : ∀ q : Nat, s.heap.size ≤ q → A q := fun q h => by rw [← hAe]; exact Or.inr h
  have hS : va_S A s.heap s.heap [] := va_S.rf
  have hl := lv_entry ([.ref h0, .int p1, .int p2, .int p3, .int p4]) (n := 6) (Nat.le_of_ble_eq_true rfl)
  have hEe : entryFrame m args 6 = entryFrame m ([.ref h0, .int p1, .int p2, .int p3, .int p4] : List Value).toArray 6 := by rw [hargs]
  rw [hEe, lg_entry_eq]
  generalize (lg_sl ([.ref h0, .int p1, .int p2, .int p3, .int p4]) ++ List.replicate (6 - (lg_sl ([.ref h0, .int p1, .int p2, .int p3, .int p4])).length) Slot.unset).toArray = ls at hl ⊢
  have hl : lv_has ls 6 [(0, .ref h0), (1, .int p1), (2, .int p2), (3, .int p3), (4, .int p4)] := hl
  refine lv_aload_n hx hb dL_begin_0 rfl (lv_at hl 0 rfl) ?_
  refine lv_iload_n hx hb dL_begin_1 rfl (lv_at hl 1 rfl) ?_
  refine lv_iload_n hx hb dL_begin_2 rfl (lv_at hl 2 rfl) ?_
  refine lv_iload_n hx hb dL_begin_3 rfl (lv_at hl 3 rfl) ?_
  refine lv_iload hx hb dL_begin_4 (lv_at hl 4 rfl) ?_
  refine nk_icallx (wr := []) (vx_runV (As := [.int p1, .int p2, .int p3, .int p4]) (rest := []) ⟨hx, hb, hml, hown, hts⟩ (c_X0_begin l hfl D h0 h1 h2 h3 h4 h5 h6 h7 h8 h9 cI cJ d r lc bg w rm k pn fa e1 am dd rt b pd pt tp s.heap.size p1 p2 p3 p4 z1 z2 z3 z4 a1 a2 a3 a4 hz1 hpa1 hz2 hpa2 hz3 hpa3 hz4 hpa4 hlc hd hk0) (cwV 4 hts gL_begin_X0_begin rfl rfl rfl (by decide +kernel) ⟨Nat.le_of_ble_eq_true rfl, Nat.le_of_ble_eq_true rfl⟩) ⟨nk_Px.blind, va_recv hK hP (ci := 0) (q0 := 0) rfl rfl, fun U hU hW => ⟨rfl, by rw [hU], by rw [hU]; exact hP, va_K.moved hW.alike hK, hD.weaken (fun _ _ _ _ => trivial), by rw [hU]; exact nk_Z.go hZ hW hZn⟩⟩ rfl rfl hl.1 rfl (lv_room (Nat.le_of_ble_eq_true rfl)) dL_begin_6 ⟨Nat.le_of_ble_eq_true rfl, Nat.le_of_ble_eq_true rfl⟩) hP hD hS hA [0, 1, 2, 3, 4, 5, 6, 7, 8, 9] [] rfl rfl rfl (by decide) (fun E9 ce q9 H locs hE hz hk9 hP hS hce hcv hcl => ?_) (fun r8 w2 H locs hw hP hD hS hk9 => ?_)
  · rcases hE with ⟨rfl, hc⟩ | ⟨rfl, hc⟩
    · exact absurd hrg hc
    · refine vx_catch (own := RL) (name := RIS) hown [] ⟨0, 9, 10, 15⟩ [] (by rw [htb]; rfl) (fun z h => nomatch h) rfl (by decide) (hts (.classLink RL 15 RIS) (by decide +kernel)) (va_Nw.use (A := args) rfl hZ.2.1.2.1) hce hcv hcl ?_
      refine lv_astore (lv' := [(5, .ref q9), (0, .ref h0), (1, .int p1), (2, .int p2), (3, .int p3), (4, .int p4)]) hx hb dL_begin_10 hl (by decide) rfl (fun ls hl => ?_)
      refine lv_bipush (v := -3) hx hb dL_begin_12 (by decide +kernel) ?_
      exact W.iret (v := -3) hx hb hr (fun t ht hW => ⟨⟨-3, wX h0 h1 h2 h3 h4 h5 h6 h7 h8 h9 cI cJ d r lc bg w rm k pn fa e1 am dd rt b pd pt tp, rfl, Or.inr ⟨rfl, hc, rfl⟩, by rw [ht]; exact hP, va_K.moved hW.alike hK, hD⟩, hS.F ht⟩) hS.2.2 dL_begin_14
  · exact W.iret (v := r8) hx hb hr (fun t ht hW => ⟨⟨r8, w2, rfl, Or.inl hw, by rw [ht]; exact hP, va_K.moved hW.alike hK, hD⟩, hS.F ht⟩) hS.2.2 dL_begin_9
set_option maxHeartbeats 4000000 in
set_option maxRecDepth 100000 in
theorem c_L_draw (l : Launch) (hfl : l.stackTraces = false) (D : va_G) (h0 h1 h2 h3 h4 h5 h6 h7 h8 h9 : Nat) (cI cJ : ClassId) (d r lc bg w rm k pn : Nat) (fa e1 am dd rt b pd pt tp : Nat → Nat) (sz : Nat) (p0 : Int32) (z : Int) (a9 : Nat)  (hz : p0.toInt = z) (hpa : 0 ≤ z → p0 = nI a9 ∧ a9 < 2147483648) (hlc : lc ≤ 2) (he : ∀ j, j < lc → e1 j ≤ 15001) (hk : k ≤ 20) (hrm : rm ≤ 10000000) (hrg : (1 ≤ z ∧ z ≤ 10000000)) : Met l yL_draw wsL_draw { frames := 8, cells := 1, slots := 6, locals := 135 } (nk_Px D (wX h0 h1 h2 h3 h4 h5 h6 h7 h8 h9 cI cJ d r lc bg w rm k pn fa e1 am dd rt b pd pt tp) (tX cI cJ) sz [.ref h0, .int p0]) (va_Qi (fun r9 w1 => ((fun r9 w1 => (1 ≤ z ∧ z ≤ 10000000) ∧ (0 < lc ∧ 0 < alive e1 lc) ∧ (a9 ≤ rm ∧ k < 20) ∧ r9 = nI (rm - a9) ∧ w1 = wX h0 h1 h2 h3 h4 h5 h6 h7 h8 h9 cI cJ d r lc bg w (rm - a9) (k + 1) pn fa e1 (va_up am k a9) (va_up dd k d) (va_up rt k r) (va_up b k (a9 * 10000)) pd pt tp) r9 w1) ∨ (r9 = -3 ∧ ((1 ≤ z ∧ z ≤ 10000000) ∧ ¬ ((0 < lc ∧ 0 < alive e1 lc) ∧ (a9 ≤ rm ∧ k < 20))) ∧ w1 = wX h0 h1 h2 h3 h4 h5 h6 h7 h8 h9 cI cJ d r lc bg w rm k pn fa e1 am dd rt b pd pt tp)) (fun w1 t => nk_At D (tX cI cJ) (va_A (wX h0 h1 h2 h3 h4 h5 h6 h7 h8 h9 cI cJ d r lc bg w rm k pn fa e1 am dd rt b pd pt tp) sz) w1 t) (va_A (wX h0 h1 h2 h3 h4 h5 h6 h7 h8 h9 cI cJ d r lc bg w rm k pn fa e1 am dd rt b pd pt tp) sz)) 1 6 (va_A (wX h0 h1 h2 h3 h4 h5 h6 h7 h8 h9 cI cJ d r lc bg w rm k pn fa e1 am dd rt b pd pt tp) sz) := by
  refine va_MetW (cc := cL_draw) (maxL := 3) (ret := (some .int)) (hh := [(0, 5, 6, 15)]) (by decide) rfl ?_
  intro p e s m args below meth c s₁ B hml hv
  obtain ⟨hargs, hsz, hP, hK, hD0, hZ⟩ := hv
  have hx := B.exec
  have hb := B.bytes
  have hr := B.returns
  have hts := atoms_spec (ws := wsL_draw) B.pre
  have hown : s.vm.findClass RL = some m.cls := findClass_of_methodNamed B.named
  have hlocks := B.notSynchronized
  have htb : c.exceptionTable.toList = tableOf [(0, 5, 6, 15)] := vx_table (x := yL_draw) B (hts (.codeWith yL_draw cL_draw 3 (some .int) [(0, 5, 6, 15)]) (by unfold wsL_draw; exact List.mem_cons_self))
  subst hsz
  have hD := hD0.self (sz := s.heap.size)
  have hZn : ∀ q, va_A (wX h0 h1 h2 h3 h4 h5 h6 h7 h8 h9 cI cJ d r lc bg w rm k pn fa e1 am dd rt b pd pt tp) s.heap.size q → va_A (wX h0 h1 h2 h3 h4 h5 h6 h7 h8 h9 cI cJ d r lc bg w rm k pn fa e1 am dd rt b pd pt tp) s.heap.size q := fun q h => h
  generalize hAe : va_A (wX h0 h1 h2 h3 h4 h5 h6 h7 h8 h9 cI cJ d r lc bg w rm k pn fa e1 am dd rt b pd pt tp) s.heap.size = A at hD ⊢
  have hA : ∀ q : Nat, s.heap.size ≤ q → A q := fun q h => by rw [← hAe]; exact Or.inr h
  have hS : va_S A s.heap s.heap [] := va_S.rf
  have hl := lv_entry ([.ref h0, .int p0]) (n := 3) (Nat.le_of_ble_eq_true rfl)
  have hEe : entryFrame m args 3 = entryFrame m ([.ref h0, .int p0] : List Value).toArray 3 := by rw [hargs]
  rw [hEe, lg_entry_eq]
  generalize (lg_sl ([.ref h0, .int p0]) ++ List.replicate (3 - (lg_sl ([.ref h0, .int p0])).length) Slot.unset).toArray = ls at hl ⊢
  have hl : lv_has ls 3 [(0, .ref h0), (1, .int p0)] := hl
  refine lv_aload_n hx hb dL_draw_0 rfl (lv_at hl 0 rfl) ?_
  refine lv_iload_n hx hb dL_draw_1 rfl (lv_at hl 1 rfl) ?_
  refine nk_icallx (wr := []) (vx_runV (As := [.int p0]) (rest := []) ⟨hx, hb, hml, hown, hts⟩ (c_X0_draw l hfl D h0 h1 h2 h3 h4 h5 h6 h7 h8 h9 cI cJ d r lc bg w rm k pn fa e1 am dd rt b pd pt tp s.heap.size p0 z a9 hz hpa hlc he hk hrm) (cwV 1 hts gL_draw_X0_draw rfl rfl rfl (by decide +kernel) ⟨Nat.le_of_ble_eq_true rfl, Nat.le_of_ble_eq_true rfl⟩) ⟨nk_Px.blind, va_recv hK hP (ci := 0) (q0 := 0) rfl rfl, fun U hU hW => ⟨rfl, by rw [hU], by rw [hU]; exact hP, va_K.moved hW.alike hK, hD.weaken (fun _ _ _ _ => trivial), by rw [hU]; exact nk_Z.go hZ hW hZn⟩⟩ rfl rfl hl.1 rfl (lv_room (Nat.le_of_ble_eq_true rfl)) dL_draw_2 ⟨Nat.le_of_ble_eq_true rfl, Nat.le_of_ble_eq_true rfl⟩) hP hD hS hA [0, 1, 2, 3, 4, 5, 6, 7, 8, 9] [] rfl rfl rfl (by decide) (fun E9 ce q9 H locs hE hz hk9 hP hS hce hcv hcl => ?_) (fun r8 w2 H locs hw hP hD hS hk9 => ?_)
  · rcases hE with ⟨rfl, hc⟩ | ⟨rfl, hc⟩
    · exact absurd hrg hc
    · refine vx_catch (own := RL) (name := RIS) hown [] ⟨0, 5, 6, 15⟩ [] (by rw [htb]; rfl) (fun z h => nomatch h) rfl (by decide) (hts (.classLink RL 15 RIS) (by decide +kernel)) (va_Nw.use (A := args) rfl hZ.2.1.2.1) hce hcv hcl ?_
      refine lv_astore_n (lv' := [(2, .ref q9), (0, .ref h0), (1, .int p0)]) hx hb dL_draw_6 rfl hl (by decide) rfl (fun ls hl => ?_)
      refine lv_bipush (v := -3) hx hb dL_draw_7 (by decide +kernel) ?_
      exact W.iret (v := -3) hx hb hr (fun t ht hW => ⟨⟨-3, wX h0 h1 h2 h3 h4 h5 h6 h7 h8 h9 cI cJ d r lc bg w rm k pn fa e1 am dd rt b pd pt tp, rfl, Or.inr ⟨rfl, hc, rfl⟩, by rw [ht]; exact hP, va_K.moved hW.alike hK, hD⟩, hS.F ht⟩) hS.2.2 dL_draw_9
  · exact W.iret (v := r8) hx hb hr (fun t ht hW => ⟨⟨r8, w2, rfl, Or.inl hw, by rw [ht]; exact hP, va_K.moved hW.alike hK, hD⟩, hS.F ht⟩) hS.2.2 dL_draw_5
set_option maxHeartbeats 4000000 in
set_option maxRecDepth 100000 in
theorem c_L_pay (l : Launch) (hfl : l.stackTraces = false) (D : va_G) (h0 h1 h2 h3 h4 h5 h6 h7 h8 h9 : Nat) (cI cJ : ClassId) (d r lc bg w rm k pn : Nat) (fa e1 am dd rt b pd pt tp : Nat → Nat) (sz : Nat) (p0 : Int32) (z : Int) (a9 : Nat)  (hz : p0.toInt = z) (hpa : 0 ≤ z → p0 = nI a9 ∧ a9 < 2147483648) (hlc : lc ≤ 2) (he : ∀ j, j < lc → e1 j ≤ 15001) (hed : ∀ j, j < lc → e1 j ≤ d + 1) (hk : k ≤ 20) (ham : ∀ j, j < k → am j ≤ 10000000) (hpn : pn ≤ 40) (hbg : bg ≤ d) (hd : d ≤ 15000) (hpd : ∀ j, j < pn → bg ≤ pd j ∧ pd j ≤ 15000) (hpt : ∀ j, j < pn → pt j ≤ 10000000) (hbs : sm b k < 4611686018427387904) (hb9 : ∀ j, j < k → b j < 4611686018427387904) (hrg : (1 ≤ z ∧ z ≤ 10000000)) : Met l yL_pay wsL_pay { frames := 8, cells := 1, slots := 6, locals := 136 } (nk_Px D (wX h0 h1 h2 h3 h4 h5 h6 h7 h8 h9 cI cJ d r lc bg w rm k pn fa e1 am dd rt b pd pt tp) (tX cI cJ) sz [.ref h0, .int p0]) (va_Qi (fun r9 w1 => ((fun r9 w1 => (1 ≤ z ∧ z ≤ 10000000) ∧ (0 < lc ∧ 0 < alive e1 lc) ∧ (a9 ≤ ceilA (sm b k) ∧ pn < 40) ∧ r9 = nI (chg (mxE e1 lc) d ((d - bg) / 365) (sm am k) (pY bg pd pt ((d - bg) / 365) pn) a9) ∧ w1 = wX h0 h1 h2 h3 h4 h5 h6 h7 h8 h9 cI cJ d r lc bg w rm k (pn + 1) fa e1 am dd rt (tkB b (a9 * 10000) k) (va_up pd pn d) (va_up pt pn a9) (tkT tp b (a9 * 10000) pn k)) r9 w1) ∨ (r9 = -3 ∧ ((1 ≤ z ∧ z ≤ 10000000) ∧ ¬ ((0 < lc ∧ 0 < alive e1 lc) ∧ (a9 ≤ ceilA (sm b k) ∧ pn < 40))) ∧ w1 = wX h0 h1 h2 h3 h4 h5 h6 h7 h8 h9 cI cJ d r lc bg w rm k pn fa e1 am dd rt b pd pt tp)) (fun w1 t => nk_At D (tX cI cJ) (va_A (wX h0 h1 h2 h3 h4 h5 h6 h7 h8 h9 cI cJ d r lc bg w rm k pn fa e1 am dd rt b pd pt tp) sz) w1 t) (va_A (wX h0 h1 h2 h3 h4 h5 h6 h7 h8 h9 cI cJ d r lc bg w rm k pn fa e1 am dd rt b pd pt tp) sz)) 1 6 (va_A (wX h0 h1 h2 h3 h4 h5 h6 h7 h8 h9 cI cJ d r lc bg w rm k pn fa e1 am dd rt b pd pt tp) sz) := by
  refine va_MetW (cc := cL_pay) (maxL := 3) (ret := (some .int)) (hh := [(0, 5, 6, 15)]) (by decide) rfl ?_
  intro p e s m args below meth c s₁ B hml hv
  obtain ⟨hargs, hsz, hP, hK, hD0, hZ⟩ := hv
  have hx := B.exec
  have hb := B.bytes
  have hr := B.returns
  have hts := atoms_spec (ws := wsL_pay) B.pre
  have hown : s.vm.findClass RL = some m.cls := findClass_of_methodNamed B.named
  have hlocks := B.notSynchronized
  have htb : c.exceptionTable.toList = tableOf [(0, 5, 6, 15)] := vx_table (x := yL_pay) B (hts (.codeWith yL_pay cL_pay 3 (some .int) [(0, 5, 6, 15)]) (by unfold wsL_pay; exact List.mem_cons_self))
  subst hsz
  have hD := hD0.self (sz := s.heap.size)
  have hZn : ∀ q, va_A (wX h0 h1 h2 h3 h4 h5 h6 h7 h8 h9 cI cJ d r lc bg w rm k pn fa e1 am dd rt b pd pt tp) s.heap.size q → va_A (wX h0 h1 h2 h3 h4 h5 h6 h7 h8 h9 cI cJ d r lc bg w rm k pn fa e1 am dd rt b pd pt tp) s.heap.size q := fun q h => h
  generalize hAe : va_A (wX h0 h1 h2 h3 h4 h5 h6 h7 h8 h9 cI cJ d r lc bg w rm k pn fa e1 am dd rt b pd pt tp) s.heap.size = A at hD ⊢
  have hA : ∀ q : Nat, s.heap.size ≤ q → A q := fun q h => by rw [← hAe]; exact Or.inr h
  have hS : va_S A s.heap s.heap [] := va_S.rf
  have hl := lv_entry ([.ref h0, .int p0]) (n := 3) (Nat.le_of_ble_eq_true rfl)
  have hEe : entryFrame m args 3 = entryFrame m ([.ref h0, .int p0] : List Value).toArray 3 := by rw [hargs]
  rw [hEe, lg_entry_eq]
  generalize (lg_sl ([.ref h0, .int p0]) ++ List.replicate (3 - (lg_sl ([.ref h0, .int p0])).length) Slot.unset).toArray = ls at hl ⊢
  have hl : lv_has ls 3 [(0, .ref h0), (1, .int p0)] := hl
  refine lv_aload_n hx hb dL_pay_0 rfl (lv_at hl 0 rfl) ?_
  refine lv_iload_n hx hb dL_pay_1 rfl (lv_at hl 1 rfl) ?_
  refine nk_icallx (wr := []) (vx_runV (As := [.int p0]) (rest := []) ⟨hx, hb, hml, hown, hts⟩ (c_X0_pay l hfl D h0 h1 h2 h3 h4 h5 h6 h7 h8 h9 cI cJ d r lc bg w rm k pn fa e1 am dd rt b pd pt tp s.heap.size p0 z a9 hz hpa hlc he hed hk ham hpn hbg hd hpd hpt hbs hb9) (cwV 1 hts gL_pay_X0_pay rfl rfl rfl (by decide +kernel) ⟨Nat.le_of_ble_eq_true rfl, Nat.le_of_ble_eq_true rfl⟩) ⟨nk_Px.blind, va_recv hK hP (ci := 0) (q0 := 0) rfl rfl, fun U hU hW => ⟨rfl, by rw [hU], by rw [hU]; exact hP, va_K.moved hW.alike hK, hD.weaken (fun _ _ _ _ => trivial), by rw [hU]; exact nk_Z.go hZ hW hZn⟩⟩ rfl rfl hl.1 rfl (lv_room (Nat.le_of_ble_eq_true rfl)) dL_pay_2 ⟨Nat.le_of_ble_eq_true rfl, Nat.le_of_ble_eq_true rfl⟩) hP hD hS hA [0, 1, 2, 3, 4, 5, 6, 7, 8, 9] [] rfl rfl rfl (by decide) (fun E9 ce q9 H locs hE hz hk9 hP hS hce hcv hcl => ?_) (fun r8 w2 H locs hw hP hD hS hk9 => ?_)
  · rcases hE with ⟨rfl, hc⟩ | ⟨rfl, hc⟩
    · exact absurd hrg hc
    · refine vx_catch (own := RL) (name := RIS) hown [] ⟨0, 5, 6, 15⟩ [] (by rw [htb]; rfl) (fun z h => nomatch h) rfl (by decide) (hts (.classLink RL 15 RIS) (by decide +kernel)) (va_Nw.use (A := args) rfl hZ.2.1.2.1) hce hcv hcl ?_
      refine lv_astore_n (lv' := [(2, .ref q9), (0, .ref h0), (1, .int p0)]) hx hb dL_pay_6 rfl hl (by decide) rfl (fun ls hl => ?_)
      refine lv_bipush (v := -3) hx hb dL_pay_7 (by decide +kernel) ?_
      exact W.iret (v := -3) hx hb hr (fun t ht hW => ⟨⟨-3, wX h0 h1 h2 h3 h4 h5 h6 h7 h8 h9 cI cJ d r lc bg w rm k pn fa e1 am dd rt b pd pt tp, rfl, Or.inr ⟨rfl, hc, rfl⟩, by rw [ht]; exact hP, va_K.moved hW.alike hK, hD⟩, hS.F ht⟩) hS.2.2 dL_pay_9
  · exact W.iret (v := r8) hx hb hr (fun t ht hW => ⟨⟨r8, w2, rfl, Or.inl hw, by rw [ht]; exact hP, va_K.moved hW.alike hK, hD⟩, hS.F ht⟩) hS.2.2 dL_pay_5
set_option maxHeartbeats 4000000 in
set_option maxRecDepth 100000 in
theorem c_L_move (l : Launch) (hfl : l.stackTraces = false) (D : va_G) (h0 h1 h2 h3 h4 h5 h6 h7 h8 h9 : Nat) (cI cJ : ClassId) (d r lc bg w rm k pn : Nat) (fa e1 am dd rt b pd pt tp : Nat → Nat) (sz : Nat) (p0 : Int32) (z : Int) (a9 : Nat)  (hz : p0.toInt = z) (hpa : 0 ≤ z → p0 = nI a9 ∧ a9 < 2147483648) (hlc : lc ≤ 2) (he : ∀ j, j < lc → e1 j ≤ 15001) (hfa : ∀ j, j < lc → 55 ≤ fa j ∧ fa j ≤ 95) (hd : d ≤ 15000) (hk : k ≤ 20) (hpn : pn ≤ 40) (hbs : sm b k < 1000000000000000000) (hb9 : ∀ j, j < k → b j < 4611686018427387904) (hrg : (0 ≤ z ∧ z ≤ 10000000)) : Met l yL_move wsL_move { frames := 8, cells := 1, slots := 6, locals := 138 } (nk_Px D (wX h0 h1 h2 h3 h4 h5 h6 h7 h8 h9 cI cJ d r lc bg w rm k pn fa e1 am dd rt b pd pt tp) (tX cI cJ) sz [.ref h0, .int p0]) (va_Ql (fun r9 w1 => ((fun r9 w1 => (0 ≤ z ∧ z ≤ 10000000) ∧ (0 < lc ∧ 0 < alive e1 lc) ∧ pn < 40 ∧ r9 = lN (ceilA (sm b k) - gL a9 (lstA fa e1 lc - 1 + d / 365)) ∧ ((ceilA (sm b k) ≤ gL a9 (lstA fa e1 lc - 1 + d / 365) ∧ w1 = wX h0 h1 h2 h3 h4 h5 h6 h7 h8 h9 cI cJ d r lc bg a9 (gL a9 (lstA fa e1 lc - 1 + d / 365) - ceilA (sm b k)) k pn fa e1 am dd rt b pd pt tp) ∨ (gL a9 (lstA fa e1 lc - 1 + d / 365) < ceilA (sm b k) ∧ w1 = wX h0 h1 h2 h3 h4 h5 h6 h7 h8 h9 cI cJ d r lc bg a9 (gL a9 (lstA fa e1 lc - 1 + d / 365) - ceilA (sm (tkB b ((ceilA (sm b k) - gL a9 (lstA fa e1 lc - 1 + d / 365)) * 10000) k) k)) k (pn + 1) fa e1 am dd rt (tkB b ((ceilA (sm b k) - gL a9 (lstA fa e1 lc - 1 + d / 365)) * 10000) k) (va_up pd pn d) (va_up pt pn 0) (tkT tp b ((ceilA (sm b k) - gL a9 (lstA fa e1 lc - 1 + d / 365)) * 10000) pn k)))) r9 w1) ∨ (r9 = -3 ∧ ((0 ≤ z ∧ z ≤ 10000000) ∧ ¬ ((0 < lc ∧ 0 < alive e1 lc) ∧ pn < 40)) ∧ w1 = wX h0 h1 h2 h3 h4 h5 h6 h7 h8 h9 cI cJ d r lc bg w rm k pn fa e1 am dd rt b pd pt tp)) (fun w1 t => nk_At D (tX cI cJ) (va_A (wX h0 h1 h2 h3 h4 h5 h6 h7 h8 h9 cI cJ d r lc bg w rm k pn fa e1 am dd rt b pd pt tp) sz) w1 t) (va_A (wX h0 h1 h2 h3 h4 h5 h6 h7 h8 h9 cI cJ d r lc bg w rm k pn fa e1 am dd rt b pd pt tp) sz)) 1 6 (va_A (wX h0 h1 h2 h3 h4 h5 h6 h7 h8 h9 cI cJ d r lc bg w rm k pn fa e1 am dd rt b pd pt tp) sz) := by
  refine va_MetW (cc := cL_move) (maxL := 3) (ret := (some .long)) (hh := [(0, 5, 6, 15)]) (by decide) rfl ?_
  intro p e s m args below meth c s₁ B hml hv
  obtain ⟨hargs, hsz, hP, hK, hD0, hZ⟩ := hv
  have hx := B.exec
  have hb := B.bytes
  have hr := B.returns
  have hts := atoms_spec (ws := wsL_move) B.pre
  have hown : s.vm.findClass RL = some m.cls := findClass_of_methodNamed B.named
  have hlocks := B.notSynchronized
  have htb : c.exceptionTable.toList = tableOf [(0, 5, 6, 15)] := vx_table (x := yL_move) B (hts (.codeWith yL_move cL_move 3 (some .long) [(0, 5, 6, 15)]) (by unfold wsL_move; exact List.mem_cons_self))
  subst hsz
  have hD := hD0.self (sz := s.heap.size)
  have hZn : ∀ q, va_A (wX h0 h1 h2 h3 h4 h5 h6 h7 h8 h9 cI cJ d r lc bg w rm k pn fa e1 am dd rt b pd pt tp) s.heap.size q → va_A (wX h0 h1 h2 h3 h4 h5 h6 h7 h8 h9 cI cJ d r lc bg w rm k pn fa e1 am dd rt b pd pt tp) s.heap.size q := fun q h => h
  generalize hAe : va_A (wX h0 h1 h2 h3 h4 h5 h6 h7 h8 h9 cI cJ d r lc bg w rm k pn fa e1 am dd rt b pd pt tp) s.heap.size = A at hD ⊢
  have hA : ∀ q : Nat, s.heap.size ≤ q → A q := fun q h => by rw [← hAe]; exact Or.inr h
  have hS : va_S A s.heap s.heap [] := va_S.rf
  have hl := lv_entry ([.ref h0, .int p0]) (n := 3) (Nat.le_of_ble_eq_true rfl)
  have hEe : entryFrame m args 3 = entryFrame m ([.ref h0, .int p0] : List Value).toArray 3 := by rw [hargs]
  rw [hEe, lg_entry_eq]
  generalize (lg_sl ([.ref h0, .int p0]) ++ List.replicate (3 - (lg_sl ([.ref h0, .int p0])).length) Slot.unset).toArray = ls at hl ⊢
  have hl : lv_has ls 3 [(0, .ref h0), (1, .int p0)] := hl
  refine lv_aload_n hx hb dL_move_0 rfl (lv_at hl 0 rfl) ?_
  refine lv_iload_n hx hb dL_move_1 rfl (lv_at hl 1 rfl) ?_
  refine nk_lcallx (wr := []) (vx_runV (As := [.int p0]) (rest := []) ⟨hx, hb, hml, hown, hts⟩ (c_X0_move l hfl D h0 h1 h2 h3 h4 h5 h6 h7 h8 h9 cI cJ d r lc bg w rm k pn fa e1 am dd rt b pd pt tp s.heap.size p0 z a9 hz hpa hlc he hfa hd hk hpn hbs hb9) (cwV 1 hts gL_move_X0_move rfl rfl rfl (by decide +kernel) ⟨Nat.le_of_ble_eq_true rfl, Nat.le_of_ble_eq_true rfl⟩) ⟨nk_Px.blind, va_recv hK hP (ci := 0) (q0 := 0) rfl rfl, fun U hU hW => ⟨rfl, by rw [hU], by rw [hU]; exact hP, va_K.moved hW.alike hK, hD.weaken (fun _ _ _ _ => trivial), by rw [hU]; exact nk_Z.go hZ hW hZn⟩⟩ rfl rfl hl.1 rfl (lv_room (Nat.le_of_ble_eq_true rfl)) dL_move_2 ⟨Nat.le_of_ble_eq_true rfl, Nat.le_of_ble_eq_true rfl⟩) hP hD hS hA [0, 1, 2, 3, 4, 5, 6, 7, 8, 9] [] rfl rfl rfl (by decide) (fun E9 ce q9 H locs hE hz hk9 hP hS hce hcv hcl => ?_) (fun r8 w2 H locs hw hP hD hS hk9 => ?_)
  · rcases hE with ⟨rfl, hc⟩ | ⟨rfl, hc⟩
    · exact absurd hrg hc
    · refine vx_catch (own := RL) (name := RIS) hown [] ⟨0, 5, 6, 15⟩ [] (by rw [htb]; rfl) (fun z h => nomatch h) rfl (by decide) (hts (.classLink RL 15 RIS) (by decide +kernel)) (va_Nw.use (A := args) rfl hZ.2.1.2.1) hce hcv hcl ?_
      refine lv_astore_n (lv' := [(2, .ref q9), (0, .ref h0), (1, .int p0)]) hx hb dL_move_6 rfl hl (by decide) rfl (fun ls hl => ?_)
      refine lv_ldc2 (v := -3) hx hb hown (hts (.constantLong RL 28 (-3)) (by decide +kernel)) dL_move_7 ?_
      exact W.lret (v := -3) hx hb hr (fun t ht hW => ⟨⟨-3, wX h0 h1 h2 h3 h4 h5 h6 h7 h8 h9 cI cJ d r lc bg w rm k pn fa e1 am dd rt b pd pt tp, rfl, Or.inr ⟨rfl, hc, rfl⟩, by rw [ht]; exact hP, va_K.moved hW.alike hK, hD⟩, hS.F ht⟩) hS.2.2 dL_move_10
  · exact W.lret (v := r8) hx hb hr (fun t ht hW => ⟨⟨r8, w2, rfl, Or.inl hw, by rw [ht]; exact hP, va_K.moved hW.alike hK, hD⟩, hS.F ht⟩) hS.2.2 dL_move_5
set_option maxHeartbeats 4000000 in
set_option maxRecDepth 100000 in
theorem c_L_pass (l : Launch) (hfl : l.stackTraces = false) (D : va_G) (h0 h1 h2 h3 h4 h5 h6 h7 h8 h9 : Nat) (cI cJ : ClassId) (d r lc bg w rm k pn : Nat) (fa e1 am dd rt b pd pt tp : Nat → Nat) (sz : Nat) (p0 : Int32) (z : Int) (a9 : Nat)  (hz : p0.toInt = z) (hpa : 0 ≤ z → p0 = nI a9 ∧ a9 < 2147483648) (hlc : lc ≤ 2) (he : ∀ j, j < lc → e1 j ≤ 15001) (hk : k ≤ 20) (hd : d ≤ 15000) (hroll : ∀ q, q < k → ∀ j, d + j ≤ 15000 → roll (rt q) (b q) j * rt q < 9223372036854775808) (hrt : ∀ q, q < k → rt q ≤ 2000)  (hrg : (1 ≤ z ∧ z ≤ 3650)) : Met l yL_pass wsL_pass { frames := 8, cells := 1, slots := 6, locals := 136 } (nk_Px D (wX h0 h1 h2 h3 h4 h5 h6 h7 h8 h9 cI cJ d r lc bg w rm k pn fa e1 am dd rt b pd pt tp) (tX cI cJ) sz [.ref h0, .int p0]) (va_Qi (fun r9 w1 => ((fun r9 w1 => (1 ≤ z ∧ z ≤ 3650) ∧ d + a9 ≤ 15000 ∧ r9 = nI (d + a9) ∧ (((0 < lc ∧ alive e1 lc = 0) ∧ w1 = wX h0 h1 h2 h3 h4 h5 h6 h7 h8 h9 cI cJ (d + a9) r lc bg w rm k pn fa e1 am dd rt b pd pt tp) ∨ (¬ (0 < lc ∧ alive e1 lc = 0) ∧ w1 = wX h0 h1 h2 h3 h4 h5 h6 h7 h8 h9 cI cJ (d + a9) r lc bg w rm k pn fa e1 am dd rt (rlB rt b a9 k) pd pt tp))) r9 w1) ∨ (r9 = -3 ∧ ((1 ≤ z ∧ z ≤ 3650) ∧ ¬ (d + a9 ≤ 15000)) ∧ w1 = wX h0 h1 h2 h3 h4 h5 h6 h7 h8 h9 cI cJ d r lc bg w rm k pn fa e1 am dd rt b pd pt tp)) (fun w1 t => nk_At D (tX cI cJ) (va_A (wX h0 h1 h2 h3 h4 h5 h6 h7 h8 h9 cI cJ d r lc bg w rm k pn fa e1 am dd rt b pd pt tp) sz) w1 t) (va_A (wX h0 h1 h2 h3 h4 h5 h6 h7 h8 h9 cI cJ d r lc bg w rm k pn fa e1 am dd rt b pd pt tp) sz)) 1 6 (va_A (wX h0 h1 h2 h3 h4 h5 h6 h7 h8 h9 cI cJ d r lc bg w rm k pn fa e1 am dd rt b pd pt tp) sz) := by
  refine va_MetW (cc := cL_pass) (maxL := 3) (ret := (some .int)) (hh := [(0, 5, 6, 15)]) (by decide) rfl ?_
  intro p e s m args below meth c s₁ B hml hv
  obtain ⟨hargs, hsz, hP, hK, hD0, hZ⟩ := hv
  have hx := B.exec
  have hb := B.bytes
  have hr := B.returns
  have hts := atoms_spec (ws := wsL_pass) B.pre
  have hown : s.vm.findClass RL = some m.cls := findClass_of_methodNamed B.named
  have hlocks := B.notSynchronized
  have htb : c.exceptionTable.toList = tableOf [(0, 5, 6, 15)] := vx_table (x := yL_pass) B (hts (.codeWith yL_pass cL_pass 3 (some .int) [(0, 5, 6, 15)]) (by unfold wsL_pass; exact List.mem_cons_self))
  subst hsz
  have hD := hD0.self (sz := s.heap.size)
  have hZn : ∀ q, va_A (wX h0 h1 h2 h3 h4 h5 h6 h7 h8 h9 cI cJ d r lc bg w rm k pn fa e1 am dd rt b pd pt tp) s.heap.size q → va_A (wX h0 h1 h2 h3 h4 h5 h6 h7 h8 h9 cI cJ d r lc bg w rm k pn fa e1 am dd rt b pd pt tp) s.heap.size q := fun q h => h
  generalize hAe : va_A (wX h0 h1 h2 h3 h4 h5 h6 h7 h8 h9 cI cJ d r lc bg w rm k pn fa e1 am dd rt b pd pt tp) s.heap.size = A at hD ⊢
  have hA : ∀ q : Nat, s.heap.size ≤ q → A q := fun q h => by rw [← hAe]; exact Or.inr h
  have hS : va_S A s.heap s.heap [] := va_S.rf
  have hl := lv_entry ([.ref h0, .int p0]) (n := 3) (Nat.le_of_ble_eq_true rfl)
  have hEe : entryFrame m args 3 = entryFrame m ([.ref h0, .int p0] : List Value).toArray 3 := by rw [hargs]
  rw [hEe, lg_entry_eq]
  generalize (lg_sl ([.ref h0, .int p0]) ++ List.replicate (3 - (lg_sl ([.ref h0, .int p0])).length) Slot.unset).toArray = ls at hl ⊢
  have hl : lv_has ls 3 [(0, .ref h0), (1, .int p0)] := hl
  refine lv_aload_n hx hb dL_pass_0 rfl (lv_at hl 0 rfl) ?_
  refine lv_iload_n hx hb dL_pass_1 rfl (lv_at hl 1 rfl) ?_
  refine nk_icallx (wr := []) (vx_runV (As := [.int p0]) (rest := []) ⟨hx, hb, hml, hown, hts⟩ (c_X0_pass l hfl D h0 h1 h2 h3 h4 h5 h6 h7 h8 h9 cI cJ d r lc bg w rm k pn fa e1 am dd rt b pd pt tp s.heap.size p0 z a9 hz hpa hlc he hk hd hroll hrt) (cwV 1 hts gL_pass_X0_pass rfl rfl rfl (by decide +kernel) ⟨Nat.le_of_ble_eq_true rfl, Nat.le_of_ble_eq_true rfl⟩) ⟨nk_Px.blind, va_recv hK hP (ci := 0) (q0 := 0) rfl rfl, fun U hU hW => ⟨rfl, by rw [hU], by rw [hU]; exact hP, va_K.moved hW.alike hK, hD.weaken (fun _ _ _ _ => trivial), by rw [hU]; exact nk_Z.go hZ hW hZn⟩⟩ rfl rfl hl.1 rfl (lv_room (Nat.le_of_ble_eq_true rfl)) dL_pass_2 ⟨Nat.le_of_ble_eq_true rfl, Nat.le_of_ble_eq_true rfl⟩) hP hD hS hA [0, 1, 2, 3, 4, 5, 6, 7, 8, 9] [] rfl rfl rfl (by decide) (fun E9 ce q9 H locs hE hz hk9 hP hS hce hcv hcl => ?_) (fun r8 w2 H locs hw hP hD hS hk9 => ?_)
  · rcases hE with ⟨rfl, hc⟩ | ⟨rfl, hc⟩
    · exact absurd hrg hc
    · refine vx_catch (own := RL) (name := RIS) hown [] ⟨0, 5, 6, 15⟩ [] (by rw [htb]; rfl) (fun z h => nomatch h) rfl (by decide) (hts (.classLink RL 15 RIS) (by decide +kernel)) (va_Nw.use (A := args) rfl hZ.2.1.2.1) hce hcv hcl ?_
      refine lv_astore_n (lv' := [(2, .ref q9), (0, .ref h0), (1, .int p0)]) hx hb dL_pass_6 rfl hl (by decide) rfl (fun ls hl => ?_)
      refine lv_bipush (v := -3) hx hb dL_pass_7 (by decide +kernel) ?_
      exact W.iret (v := -3) hx hb hr (fun t ht hW => ⟨⟨-3, wX h0 h1 h2 h3 h4 h5 h6 h7 h8 h9 cI cJ d r lc bg w rm k pn fa e1 am dd rt b pd pt tp, rfl, Or.inr ⟨rfl, hc, rfl⟩, by rw [ht]; exact hP, va_K.moved hW.alike hK, hD⟩, hS.F ht⟩) hS.2.2 dL_pass_9
  · exact W.iret (v := r8) hx hb hr (fun t ht hW => ⟨⟨r8, w2, rfl, Or.inl hw, by rw [ht]; exact hP, va_K.moved hW.alike hK, hD⟩, hS.F ht⟩) hS.2.2 dL_pass_5
set_option maxHeartbeats 4000000 in
set_option maxRecDepth 100000 in
theorem c_L_charge (l : Launch) (hfl : l.stackTraces = false) (D : va_G) (h0 h1 h2 h3 h4 h5 h6 h7 h8 h9 : Nat) (cI cJ : ClassId) (d r lc bg w rm k pn : Nat) (fa e1 am dd rt b pd pt tp : Nat → Nat) (sz : Nat) (p0 : Int32) (z : Int) (a9 : Nat)  (hz : p0.toInt = z) (hpa : 0 ≤ z → p0 = nI a9 ∧ a9 < 2147483648) (hlc : lc ≤ 2) (he : ∀ j, j < lc → e1 j ≤ 15001) (hed : ∀ j, j < lc → e1 j ≤ d + 1) (hk : k ≤ 20) (ham : ∀ j, j < k → am j ≤ 10000000) (hpn : pn ≤ 40) (hbg : bg ≤ d) (hd : d ≤ 15000) (hpd : ∀ j, j < pn → bg ≤ pd j ∧ pd j ≤ 15000) (hpt : ∀ j, j < pn → pt j ≤ 10000000) (hrg : (1 ≤ z ∧ z ≤ 10000000)) : Met l yL_charge wsL_charge { frames := 8, cells := 1, slots := 6, locals := 135 } (nk_Px D (wX h0 h1 h2 h3 h4 h5 h6 h7 h8 h9 cI cJ d r lc bg w rm k pn fa e1 am dd rt b pd pt tp) (tX cI cJ) sz [.ref h0, .int p0]) (va_Qi (fun r9 w1 => (((1 ≤ z ∧ z ≤ 10000000) ∧ (0 < lc ∧ 0 < alive e1 lc)) ∧ r9 = (nI (chg (mxE e1 lc) d ((d - bg) / 365) (sm am k) (pY bg pd pt ((d - bg) / 365) pn) a9)) ∧ w1 = wX h0 h1 h2 h3 h4 h5 h6 h7 h8 h9 cI cJ d r lc bg w rm k pn fa e1 am dd rt b pd pt tp) ∨ (r9 = -3 ∧ ((1 ≤ z ∧ z ≤ 10000000) ∧ ¬ (0 < lc ∧ 0 < alive e1 lc)) ∧ w1 = wX h0 h1 h2 h3 h4 h5 h6 h7 h8 h9 cI cJ d r lc bg w rm k pn fa e1 am dd rt b pd pt tp)) (fun w1 t => nk_At D (tX cI cJ) (va_A (wX h0 h1 h2 h3 h4 h5 h6 h7 h8 h9 cI cJ d r lc bg w rm k pn fa e1 am dd rt b pd pt tp) sz) w1 t) (va_A (wX h0 h1 h2 h3 h4 h5 h6 h7 h8 h9 cI cJ d r lc bg w rm k pn fa e1 am dd rt b pd pt tp) sz)) 1 6 (va_A (wX h0 h1 h2 h3 h4 h5 h6 h7 h8 h9 cI cJ d r lc bg w rm k pn fa e1 am dd rt b pd pt tp) sz) := by
  refine va_MetW (cc := cL_charge) (maxL := 3) (ret := (some .int)) (hh := [(0, 5, 6, 15)]) (by decide) rfl ?_
  intro p e s m args below meth c s₁ B hml hv
  obtain ⟨hargs, hsz, hP, hK, hD0, hZ⟩ := hv
  have hx := B.exec
  have hb := B.bytes
  have hr := B.returns
  have hts := atoms_spec (ws := wsL_charge) B.pre
  have hown : s.vm.findClass RL = some m.cls := findClass_of_methodNamed B.named
  have hlocks := B.notSynchronized
  have htb : c.exceptionTable.toList = tableOf [(0, 5, 6, 15)] := vx_table (x := yL_charge) B (hts (.codeWith yL_charge cL_charge 3 (some .int) [(0, 5, 6, 15)]) (by unfold wsL_charge; exact List.mem_cons_self))
  subst hsz
  have hD := hD0.self (sz := s.heap.size)
  have hZn : ∀ q, va_A (wX h0 h1 h2 h3 h4 h5 h6 h7 h8 h9 cI cJ d r lc bg w rm k pn fa e1 am dd rt b pd pt tp) s.heap.size q → va_A (wX h0 h1 h2 h3 h4 h5 h6 h7 h8 h9 cI cJ d r lc bg w rm k pn fa e1 am dd rt b pd pt tp) s.heap.size q := fun q h => h
  generalize hAe : va_A (wX h0 h1 h2 h3 h4 h5 h6 h7 h8 h9 cI cJ d r lc bg w rm k pn fa e1 am dd rt b pd pt tp) s.heap.size = A at hD ⊢
  have hA : ∀ q : Nat, s.heap.size ≤ q → A q := fun q h => by rw [← hAe]; exact Or.inr h
  have hS : va_S A s.heap s.heap [] := va_S.rf
  have hl := lv_entry ([.ref h0, .int p0]) (n := 3) (Nat.le_of_ble_eq_true rfl)
  have hEe : entryFrame m args 3 = entryFrame m ([.ref h0, .int p0] : List Value).toArray 3 := by rw [hargs]
  rw [hEe, lg_entry_eq]
  generalize (lg_sl ([.ref h0, .int p0]) ++ List.replicate (3 - (lg_sl ([.ref h0, .int p0])).length) Slot.unset).toArray = ls at hl ⊢
  have hl : lv_has ls 3 [(0, .ref h0), (1, .int p0)] := hl
  refine lv_aload_n hx hb dL_charge_0 rfl (lv_at hl 0 rfl) ?_
  refine lv_iload_n hx hb dL_charge_1 rfl (lv_at hl 1 rfl) ?_
  refine nk_rdx (vx_runV (As := [.int p0]) (rest := []) ⟨hx, hb, hml, hown, hts⟩ (c_X0_charge l hfl D h0 h1 h2 h3 h4 h5 h6 h7 h8 h9 cI cJ d r lc bg w rm k pn fa e1 am dd rt b pd pt tp s.heap.size p0 z a9 hz hpa hlc he hed hk ham hpn hbg hd hpd hpt) (cwV 1 hts gL_charge_X0_charge rfl rfl rfl (by decide +kernel) ⟨Nat.le_of_ble_eq_true rfl, Nat.le_of_ble_eq_true rfl⟩) ⟨nk_Px.blind, va_recv hK hP (ci := 0) (q0 := 0) rfl rfl, fun U hU hW => ⟨rfl, by rw [hU], by rw [hU]; exact hP, va_K.moved hW.alike hK, hD.weaken (fun _ _ _ _ => trivial), by rw [hU]; exact nk_Z.go hZ hW hZn⟩⟩ rfl rfl hl.1 rfl (lv_room (Nat.le_of_ble_eq_true rfl)) dL_charge_2 ⟨Nat.le_of_ble_eq_true rfl, Nat.le_of_ble_eq_true rfl⟩) hS hA (fun E9 ce q9 H hE hz hk9 hS hce hcv hcl => ?_) (fun hw => ?_)
  · rcases hE with ⟨rfl, hc⟩ | ⟨rfl, hc⟩
    · exact absurd hrg hc
    · have hP := hP.kept (fun k q hk => hk9 q.1 ((hP k q hk).lt))
      refine vx_catch (own := RL) (name := RIS) hown [] ⟨0, 5, 6, 15⟩ [] (by rw [htb]; rfl) (fun z h => nomatch h) rfl (by decide) (hts (.classLink RL 15 RIS) (by decide +kernel)) (va_Nw.use (A := args) rfl hZ.2.1.2.1) hce hcv hcl ?_
      refine lv_astore_n (lv' := [(2, .ref q9), (0, .ref h0), (1, .int p0)]) hx hb dL_charge_6 rfl hl (by decide) rfl (fun ls hl => ?_)
      refine lv_bipush (v := -3) hx hb dL_charge_7 (by decide +kernel) ?_
      exact W.iret (v := -3) hx hb hr (fun t ht hW => ⟨⟨-3, wX h0 h1 h2 h3 h4 h5 h6 h7 h8 h9 cI cJ d r lc bg w rm k pn fa e1 am dd rt b pd pt tp, rfl, Or.inr ⟨rfl, hc, rfl⟩, by rw [ht]; exact hP, va_K.moved hW.alike hK, hD⟩, hS.F ht⟩) hS.2.2 dL_charge_9
  · refine W.widen (k := 1) (n := 6) (by decide) (by decide) ?_
    refine W.eq (g2 := F0 m 5 ls [.int (nI (chg (mxE e1 lc) d ((d - bg) / 365) (sm am k) (pY bg pd pt ((d - bg) / 365) pn) a9))]) rfl ?_
    exact W.iret (v := (nI (chg (mxE e1 lc) d ((d - bg) / 365) (sm am k) (pY bg pd pt ((d - bg) / 365) pn) a9))) hx hb hr (fun t ht hW => ⟨⟨(nI (chg (mxE e1 lc) d ((d - bg) / 365) (sm am k) (pY bg pd pt ((d - bg) / 365) pn) a9)), wX h0 h1 h2 h3 h4 h5 h6 h7 h8 h9 cI cJ d r lc bg w rm k pn fa e1 am dd rt b pd pt tp, rfl, Or.inl ⟨hw, rfl, rfl⟩, by rw [ht]; exact hP, va_K.moved hW.alike hK, hD⟩, hS.F ht⟩) hS.2.2 dL_charge_5
