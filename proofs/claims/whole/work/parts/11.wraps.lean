set_option maxHeartbeats 4000000 in
set_option maxRecDepth 100000 in
theorem c_L_begin (l : Launch) (hfl : l.stackTraces = false) (D : va_G) (h0 h1 h2 h3 h4 h5 h6 h7 h8 h9 : Nat) (cI cJ : ClassId) (d r lc bg w rm k pn : Nat) (fa e1 am dd rt b pd pt tp : Nat → Nat) (ho : Nat) (og : Nat → Int64) (sz : Nat) (p1 p2 p3 p4 : Int32) (z1 z2 z3 z4 : Int) (a1 a2 a3 a4 : Nat) (hz1 : p1.toInt = z1) (hpa1 : 0 ≤ z1 → p1 = nI a1 ∧ a1 < 2147483648) (hz2 : p2.toInt = z2) (hpa2 : 0 ≤ z2 → p2 = nI a2 ∧ a2 < 2147483648) (hz3 : p3.toInt = z3) (hpa3 : 0 ≤ z3 → p3 = nI a3 ∧ a3 < 2147483648) (hz4 : p4.toInt = z4) (hpa4 : 0 ≤ z4 → p4 = nI a4 ∧ a4 < 2147483648) (hlc : lc ≤ 2) (hd : d ≤ 15000) (hk0 : lc = 0 → k = 0) : Met l yL_begin wsL_begin { frames := 8, cells := 1, slots := 6, locals := 140 } (nk_Px D (wX h0 h1 h2 h3 h4 h5 h6 h7 h8 h9 cI cJ d r lc bg w rm k pn fa e1 am dd rt b pd pt tp ++ [(ho, .inl (cJ, 1, .inr (.inl (og))))]) (tX cI cJ) sz [.ref h0, .int p1, .int p2, .int p3, .int p4, .ref ho]) (va_Qi (fun r9 w1 => (r9 = nI 0 ∧ ∃ (r8 : Int32) (w2 : va_W), (fun r9 w1 => ((1000 ≤ z1 ∧ z1 ≤ 10000000) ∧ (55 ≤ z2 ∧ z2 ≤ 95) ∧ (z3 = 0 ∨ (55 ≤ z3 ∧ z3 ≤ 95)) ∧ (0 ≤ z4 ∧ z4 ≤ 10000000)) ∧ lc = 0 ∧ ((a3 = 0 ∧ a4 = 0 ∧ a4 ≤ gL a1 (a2 + d / 365) ∧ r9 = nI (gL a1 (a2 + d / 365)) ∧ w1 = wX h0 h1 h2 h3 h4 h5 h6 h7 h8 h9 cI cJ d r (lc + 1) d a1 (gL a1 (a2 + d / 365)) k pn (va_up fa lc a2) (va_up e1 lc 0) am dd rt b pd pt tp) ∨ (a3 = 0 ∧ 0 < a4 ∧ a4 ≤ gL a1 (a2 + d / 365) ∧ r9 = nI (gL a1 (a2 + d / 365) - a4) ∧ w1 = wX h0 h1 h2 h3 h4 h5 h6 h7 h8 h9 cI cJ d r (lc + 1) d a1 (gL a1 (a2 + d / 365) - a4) (k + 1) pn (va_up fa lc a2) (va_up e1 lc 0) (va_up am k a4) (va_up dd k d) (va_up rt k r) (va_up b k (a4 * 10000)) pd pt tp) ∨ (0 < a3 ∧ a4 = 0 ∧ a4 ≤ gL a1 (min a2 a3 + d / 365) ∧ r9 = nI (gL a1 (min a2 a3 + d / 365)) ∧ w1 = wX h0 h1 h2 h3 h4 h5 h6 h7 h8 h9 cI cJ d r (lc + 1 + 1) d a1 (gL a1 (min a2 a3 + d / 365)) k pn (va_up (va_up fa lc a2) (lc + 1) a3) (va_up (va_up e1 lc 0) (lc + 1) 0) am dd rt b pd pt tp) ∨ (0 < a3 ∧ 0 < a4 ∧ a4 ≤ gL a1 (min a2 a3 + d / 365) ∧ r9 = nI (gL a1 (min a2 a3 + d / 365) - a4) ∧ w1 = wX h0 h1 h2 h3 h4 h5 h6 h7 h8 h9 cI cJ d r (lc + 1 + 1) d a1 (gL a1 (min a2 a3 + d / 365) - a4) (k + 1) pn (va_up (va_up fa lc a2) (lc + 1) a3) (va_up (va_up e1 lc 0) (lc + 1) 0) (va_up am k a4) (va_up dd k d) (va_up rt k r) (va_up b k (a4 * 10000)) pd pt tp))) r8 w2 ∧ w1 = (ho, .inl (cJ, 1, .inr (.inl (vp_updL og 0 r8.toInt64)))) :: w2) ∨ (r9 = nI 1 ∧ (¬ ((1000 ≤ z1 ∧ z1 ≤ 10000000) ∧ (55 ≤ z2 ∧ z2 ≤ 95) ∧ (z3 = 0 ∨ (55 ≤ z3 ∧ z3 ≤ 95)) ∧ (0 ≤ z4 ∧ z4 ≤ 10000000))) ∧ w1 = (ho, .inl (cJ, 1, .inr (.inl (og)))) :: wX h0 h1 h2 h3 h4 h5 h6 h7 h8 h9 cI cJ d r lc bg w rm k pn fa e1 am dd rt b pd pt tp) ∨ (r9 = nI 2 ∧ (((1000 ≤ z1 ∧ z1 ≤ 10000000) ∧ (55 ≤ z2 ∧ z2 ≤ 95) ∧ (z3 = 0 ∨ (55 ≤ z3 ∧ z3 ≤ 95)) ∧ (0 ≤ z4 ∧ z4 ≤ 10000000)) ∧ (0 < lc ∨ (a3 = 0 ∧ gL a1 (a2 + d / 365) < a4) ∨ (0 < a3 ∧ gL a1 (min a2 a3 + d / 365) < a4))) ∧ w1 = (ho, .inl (cJ, 1, .inr (.inl (og)))) :: wX h0 h1 h2 h3 h4 h5 h6 h7 h8 h9 cI cJ d r lc bg w rm k pn fa e1 am dd rt b pd pt tp)) (fun w1 t => nk_At D (tX cI cJ) (va_A (wX h0 h1 h2 h3 h4 h5 h6 h7 h8 h9 cI cJ d r lc bg w rm k pn fa e1 am dd rt b pd pt tp ++ [(ho, .inl (cJ, 1, .inr (.inl (og))))]) sz) w1 t) (va_A (wX h0 h1 h2 h3 h4 h5 h6 h7 h8 h9 cI cJ d r lc bg w rm k pn fa e1 am dd rt b pd pt tp ++ [(ho, .inl (cJ, 1, .inr (.inl (og))))]) sz)) 1 6 (va_A (wX h0 h1 h2 h3 h4 h5 h6 h7 h8 h9 cI cJ d r lc bg w rm k pn fa e1 am dd rt b pd pt tp ++ [(ho, .inl (cJ, 1, .inr (.inl (og))))]) sz) := by
  refine va_MetW (cc := cL_begin) (maxL := 7) (ret := (some .int)) (hh := [(0, 14, 17, 13), (0, 14, 21, 15)]) (by decide) rfl ?_
  intro p e s m args below meth c s₁ B hml hv
  obtain ⟨hargs, hsz, hP, hK, hD0, hZ⟩ := hv
  have hx := B.exec
  have hb := B.bytes
  have hr := B.returns
  have hts := atoms_spec (ws := wsL_begin) B.pre
  have hown : s.vm.findClass RL = some m.cls := findClass_of_methodNamed B.named
  have hlocks := B.notSynchronized
  have htb : c.exceptionTable.toList = tableOf [(0, 14, 17, 13), (0, 14, 21, 15)] := vx_table (x := yL_begin) B (hts (.codeWith yL_begin cL_begin 7 (some .int) [(0, 14, 17, 13), (0, 14, 21, 15)]) (by unfold wsL_begin; exact List.mem_cons_self))
  subst hsz
  have hD := hD0.self (sz := s.heap.size)
  have hZn : ∀ q, va_A (wX h0 h1 h2 h3 h4 h5 h6 h7 h8 h9 cI cJ d r lc bg w rm k pn fa e1 am dd rt b pd pt tp) s.heap.size q → va_A (wX h0 h1 h2 h3 h4 h5 h6 h7 h8 h9 cI cJ d r lc bg w rm k pn fa e1 am dd rt b pd pt tp ++ [(ho, .inl (cJ, 1, .inr (.inl (og))))]) s.heap.size q := fun q h => h.elim (fun ⟨k, e, hk⟩ => by
    have hk9 : k < 10 := by
      have := (List.getElem?_eq_some_iff.mp hk).1
      exact this
    exact Or.inl ⟨k, e, by rw [List.getElem?_append_left (by exact hk9)]; exact hk⟩) (fun h => Or.inr h)
  generalize hAe : va_A (wX h0 h1 h2 h3 h4 h5 h6 h7 h8 h9 cI cJ d r lc bg w rm k pn fa e1 am dd rt b pd pt tp ++ [(ho, .inl (cJ, 1, .inr (.inl (og))))]) s.heap.size = A at hD ⊢
  have hA : ∀ q : Nat, s.heap.size ≤ q → A q := fun q h => by rw [← hAe]; exact Or.inr h
  have hS : va_S A s.heap s.heap [] := va_S.rf
  have hl := lv_entry ([.ref h0, .int p1, .int p2, .int p3, .int p4, .ref ho]) (n := 7) (Nat.le_of_ble_eq_true rfl)
  have hEe : entryFrame m args 7 = entryFrame m ([.ref h0, .int p1, .int p2, .int p3, .int p4, .ref ho] : List Value).toArray 7 := by rw [hargs]
  rw [hEe, lg_entry_eq]
  generalize (lg_sl ([.ref h0, .int p1, .int p2, .int p3, .int p4, .ref ho]) ++ List.replicate (7 - (lg_sl ([.ref h0, .int p1, .int p2, .int p3, .int p4, .ref ho])).length) Slot.unset).toArray = ls at hl ⊢
  have hl : lv_has ls 7 [(0, .ref h0), (1, .int p1), (2, .int p2), (3, .int p3), (4, .int p4), (5, .ref ho)] := hl
  refine lv_aload hx hb dL_begin_0 (lv_at hl 5 rfl) ?_
  refine lv_iconst (v := nI 0) hx hb dL_begin_2 (by decide +kernel) ?_
  refine lv_aload_n hx hb dL_begin_3 rfl (lv_at hl 0 rfl) ?_
  refine lv_iload_n hx hb dL_begin_4 rfl (lv_at hl 1 rfl) ?_
  refine lv_iload_n hx hb dL_begin_5 rfl (lv_at hl 2 rfl) ?_
  refine lv_iload_n hx hb dL_begin_6 rfl (lv_at hl 3 rfl) ?_
  refine lv_iload hx hb dL_begin_7 (lv_at hl 4 rfl) ?_
  have hPc := hP.sub (ws' := wX h0 h1 h2 h3 h4 h5 h6 h7 h8 h9 cI cJ d r lc bg w rm k pn fa e1 am dd rt b pd pt tp) [0, 1, 2, 3, 4, 5, 6, 7, 8, 9] rfl
  have hDc := hD.sub (ws' := wX h0 h1 h2 h3 h4 h5 h6 h7 h8 h9 cI cJ d r lc bg w rm k pn fa e1 am dd rt b pd pt tp) [0, 1, 2, 3, 4, 5, 6, 7, 8, 9] (by decide) rfl
  refine nk_icallx (wr := [(ho, .inl (cJ, 1, .inr (.inl (og))))]) (vx_runV (As := [.int p1, .int p2, .int p3, .int p4]) (rest := [.int (nI 0), .ref ho]) ⟨hx, hb, hml, hown, hts⟩ (c_X0_begin l hfl D h0 h1 h2 h3 h4 h5 h6 h7 h8 h9 cI cJ d r lc bg w rm k pn fa e1 am dd rt b pd pt tp s.heap.size p1 p2 p3 p4 z1 z2 z3 z4 a1 a2 a3 a4 hz1 hpa1 hz2 hpa2 hz3 hpa3 hz4 hpa4 hlc hd hk0) (cwV 4 hts gL_begin_X0_begin rfl rfl rfl (by decide +kernel) ⟨Nat.le_of_ble_eq_true rfl, Nat.le_of_ble_eq_true rfl⟩) ⟨nk_Px.blind, va_recv hK hPc (ci := 0) (q0 := 0) rfl rfl, fun U hU hW => ⟨rfl, by rw [hU], by rw [hU]; exact hPc, va_K.moved hW.alike hK, hDc.weaken (fun _ _ _ _ => trivial), by rw [hU]; exact nk_Z.go hZ hW hZn⟩⟩ rfl rfl hl.1 rfl (lv_room (Nat.le_of_ble_eq_true rfl)) dL_begin_9 ⟨Nat.le_of_ble_eq_true rfl, Nat.le_of_ble_eq_true rfl⟩) hP hD hS hA [0, 1, 2, 3, 4, 5, 6, 7, 8, 9] [10] rfl rfl rfl (by decide) (fun E9 ce q9 H locs hE hz hk9 hP hS hce hcv hcl => ?_) (fun r8 w2 H locs hw hP hD hS hk9 => ?_)
  · rcases hE with ⟨rfl, hc⟩ | ⟨rfl, hc⟩
    · refine vx_catch (own := RL) (name := RIA) hown [] ⟨0, 14, 17, 13⟩ [⟨0, 14, 21, 15⟩] (by rw [htb]; rfl) (fun z h => nomatch h) rfl (by decide) (hts (.classLink RL 13 RIA) (by decide +kernel)) (va_Nw.use (A := args) rfl hZ.2.1.1) hce hcv hcl ?_
      refine lv_astore (lv' := [(6, .ref q9), (0, .ref h0), (1, .int p1), (2, .int p2), (3, .int p3), (4, .int p4), (5, .ref ho)]) hx hb dL_begin_17 hl (by decide) rfl (fun ls hl => ?_)
      refine lv_iconst (v := nI 1) hx hb dL_begin_19 (by decide +kernel) ?_
      have hP9 := hP.sub (ws' := (ho, .inl (cJ, 1, .inr (.inl (og)))) :: wX h0 h1 h2 h3 h4 h5 h6 h7 h8 h9 cI cJ d r lc bg w rm k pn fa e1 am dd rt b pd pt tp) [10, 0, 1, 2, 3, 4, 5, 6, 7, 8, 9] rfl
      have hD9 := hD.sub (ws' := (ho, .inl (cJ, 1, .inr (.inl (og)))) :: wX h0 h1 h2 h3 h4 h5 h6 h7 h8 h9 cI cJ d r lc bg w rm k pn fa e1 am dd rt b pd pt tp) [10, 0, 1, 2, 3, 4, 5, 6, 7, 8, 9] (by decide) rfl
      exact W.iret (v := nI 1) hx hb hr (fun t ht hW => ⟨⟨nI 1, _, rfl, Or.inr (Or.inl ⟨rfl, hc, rfl⟩), by rw [ht]; exact hP9, va_K.moved hW.alike hK, hD9⟩, hS.F ht⟩) hS.2.2 dL_begin_20
    · refine vx_catch (own := RL) (name := RIS) hown [⟨0, 14, 17, 13⟩] ⟨0, 14, 21, 15⟩ [] (by rw [htb]; rfl) (fun z h => by rw [List.mem_singleton] at h; subst h; exact Or.inr ⟨by decide, RIA, hts (.classLink RL 13 RIA) (by decide +kernel), hZ.2.1.2.2.2.1⟩) rfl (by decide) (hts (.classLink RL 15 RIS) (by decide +kernel)) (va_Nw.use (A := args) rfl hZ.2.1.2.1) hce hcv hcl ?_
      refine lv_astore (lv' := [(6, .ref q9), (0, .ref h0), (1, .int p1), (2, .int p2), (3, .int p3), (4, .int p4), (5, .ref ho)]) hx hb dL_begin_21 hl (by decide) rfl (fun ls hl => ?_)
      refine lv_iconst (v := nI 2) hx hb dL_begin_23 (by decide +kernel) ?_
      have hP9 := hP.sub (ws' := (ho, .inl (cJ, 1, .inr (.inl (og)))) :: wX h0 h1 h2 h3 h4 h5 h6 h7 h8 h9 cI cJ d r lc bg w rm k pn fa e1 am dd rt b pd pt tp) [10, 0, 1, 2, 3, 4, 5, 6, 7, 8, 9] rfl
      have hD9 := hD.sub (ws' := (ho, .inl (cJ, 1, .inr (.inl (og)))) :: wX h0 h1 h2 h3 h4 h5 h6 h7 h8 h9 cI cJ d r lc bg w rm k pn fa e1 am dd rt b pd pt tp) [10, 0, 1, 2, 3, 4, 5, 6, 7, 8, 9] (by decide) rfl
      exact W.iret (v := nI 2) hx hb hr (fun t ht hW => ⟨⟨nI 2, _, rfl, Or.inr (Or.inr ⟨rfl, hc, rfl⟩), by rw [ht]; exact hP9, va_K.moved hW.alike hK, hD9⟩, hS.F ht⟩) hS.2.2 dL_begin_24
  · refine lv_i2l hx hb dL_begin_12 rfl ?_
    refine va_last hx hb hK hP hD hS 0 1 rfl rfl (vp_in_nI (by decide) (by decide)) dL_begin_13 (fun H locs hP hD hS => ?_)
    have e0 : (nI 0).toNatClampNeg = 0 := nI_clamp (by decide)
    rw [e0] at hP hD
    have hP : va_P D vwCl ((ho, .inl (cJ, 1, .inr (.inl (vp_updL og 0 r8.toInt64)))) :: w2) H := hP
    have hD : va_D A ((ho, .inl (cJ, 1, .inr (.inl (vp_updL og 0 r8.toInt64)))) :: w2) := hD
    refine lv_goto (tgt := 25) hx hb dL_begin_14 (by decide) ?_
    refine lv_iconst (v := nI 0) hx hb dL_begin_25 (by decide +kernel) ?_
    exact W.iret (v := nI 0) hx hb hr (fun t ht hW => ⟨⟨nI 0, _, rfl, Or.inl ⟨rfl, r8, w2, hw, rfl⟩, by rw [ht]; exact hP, va_K.moved hW.alike hK, hD⟩, hS.F ht⟩) hS.2.2 dL_begin_26
set_option maxHeartbeats 4000000 in
set_option maxRecDepth 100000 in
theorem c_L_setRate (l : Launch) (hfl : l.stackTraces = false) (D : va_G) (h0 h1 h2 h3 h4 h5 h6 h7 h8 h9 : Nat) (cI cJ : ClassId) (d r lc bg w rm k pn : Nat) (fa e1 am dd rt b pd pt tp : Nat → Nat) (ho : Nat) (og : Nat → Int64) (sz : Nat) (p0 : Int32) (z : Int) (a9 : Nat)  (hz : p0.toInt = z) (hpa : 0 ≤ z → p0 = nI a9 ∧ a9 < 2147483648)  : Met l yL_setRate wsL_setRate { frames := 8, cells := 1, slots := 6, locals := 136 } (nk_Px D (wX h0 h1 h2 h3 h4 h5 h6 h7 h8 h9 cI cJ d r lc bg w rm k pn fa e1 am dd rt b pd pt tp ++ [(ho, .inl (cJ, 1, .inr (.inl (og))))]) (tX cI cJ) sz [.ref h0, .int p0, .ref ho]) (va_Qi (fun r9 w1 => (r9 = nI 0 ∧ ∃ (r8 : Int32) (w2 : va_W), (fun r9 w1 => (0 ≤ z ∧ z ≤ 2000) ∧ r9 = nI r ∧ w1 = wX h0 h1 h2 h3 h4 h5 h6 h7 h8 h9 cI cJ d a9 lc bg w rm k pn fa e1 am dd rt b pd pt tp) r8 w2 ∧ w1 = (ho, .inl (cJ, 1, .inr (.inl (vp_updL og 0 r8.toInt64)))) :: w2) ∨ (r9 = nI 1 ∧ (¬ (0 ≤ z ∧ z ≤ 2000)) ∧ w1 = (ho, .inl (cJ, 1, .inr (.inl (og)))) :: wX h0 h1 h2 h3 h4 h5 h6 h7 h8 h9 cI cJ d r lc bg w rm k pn fa e1 am dd rt b pd pt tp)) (fun w1 t => nk_At D (tX cI cJ) (va_A (wX h0 h1 h2 h3 h4 h5 h6 h7 h8 h9 cI cJ d r lc bg w rm k pn fa e1 am dd rt b pd pt tp ++ [(ho, .inl (cJ, 1, .inr (.inl (og))))]) sz) w1 t) (va_A (wX h0 h1 h2 h3 h4 h5 h6 h7 h8 h9 cI cJ d r lc bg w rm k pn fa e1 am dd rt b pd pt tp ++ [(ho, .inl (cJ, 1, .inr (.inl (og))))]) sz)) 1 6 (va_A (wX h0 h1 h2 h3 h4 h5 h6 h7 h8 h9 cI cJ d r lc bg w rm k pn fa e1 am dd rt b pd pt tp ++ [(ho, .inl (cJ, 1, .inr (.inl (og))))]) sz) := by
  refine va_MetW (cc := cL_setRate) (maxL := 4) (ret := (some .int)) (hh := [(0, 9, 12, 13)]) (by decide) rfl ?_
  intro p e s m args below meth c s₁ B hml hv
  obtain ⟨hargs, hsz, hP, hK, hD0, hZ⟩ := hv
  have hx := B.exec
  have hb := B.bytes
  have hr := B.returns
  have hts := atoms_spec (ws := wsL_setRate) B.pre
  have hown : s.vm.findClass RL = some m.cls := findClass_of_methodNamed B.named
  have hlocks := B.notSynchronized
  have htb : c.exceptionTable.toList = tableOf [(0, 9, 12, 13)] := vx_table (x := yL_setRate) B (hts (.codeWith yL_setRate cL_setRate 4 (some .int) [(0, 9, 12, 13)]) (by unfold wsL_setRate; exact List.mem_cons_self))
  subst hsz
  have hD := hD0.self (sz := s.heap.size)
  have hZn : ∀ q, va_A (wX h0 h1 h2 h3 h4 h5 h6 h7 h8 h9 cI cJ d r lc bg w rm k pn fa e1 am dd rt b pd pt tp) s.heap.size q → va_A (wX h0 h1 h2 h3 h4 h5 h6 h7 h8 h9 cI cJ d r lc bg w rm k pn fa e1 am dd rt b pd pt tp ++ [(ho, .inl (cJ, 1, .inr (.inl (og))))]) s.heap.size q := fun q h => h.elim (fun ⟨k, e, hk⟩ => by
    have hk9 : k < 10 := by
      have := (List.getElem?_eq_some_iff.mp hk).1
      exact this
    exact Or.inl ⟨k, e, by rw [List.getElem?_append_left (by exact hk9)]; exact hk⟩) (fun h => Or.inr h)
  generalize hAe : va_A (wX h0 h1 h2 h3 h4 h5 h6 h7 h8 h9 cI cJ d r lc bg w rm k pn fa e1 am dd rt b pd pt tp ++ [(ho, .inl (cJ, 1, .inr (.inl (og))))]) s.heap.size = A at hD ⊢
  have hA : ∀ q : Nat, s.heap.size ≤ q → A q := fun q h => by rw [← hAe]; exact Or.inr h
  have hS : va_S A s.heap s.heap [] := va_S.rf
  have hl := lv_entry ([.ref h0, .int p0, .ref ho]) (n := 4) (Nat.le_of_ble_eq_true rfl)
  have hEe : entryFrame m args 4 = entryFrame m ([.ref h0, .int p0, .ref ho] : List Value).toArray 4 := by rw [hargs]
  rw [hEe, lg_entry_eq]
  generalize (lg_sl ([.ref h0, .int p0, .ref ho]) ++ List.replicate (4 - (lg_sl ([.ref h0, .int p0, .ref ho])).length) Slot.unset).toArray = ls at hl ⊢
  have hl : lv_has ls 4 [(0, .ref h0), (1, .int p0), (2, .ref ho)] := hl
  refine lv_aload_n hx hb dL_setRate_0 rfl (lv_at hl 2 rfl) ?_
  refine lv_iconst (v := nI 0) hx hb dL_setRate_1 (by decide +kernel) ?_
  refine lv_aload_n hx hb dL_setRate_2 rfl (lv_at hl 0 rfl) ?_
  refine lv_iload_n hx hb dL_setRate_3 rfl (lv_at hl 1 rfl) ?_
  have hPc := hP.sub (ws' := wX h0 h1 h2 h3 h4 h5 h6 h7 h8 h9 cI cJ d r lc bg w rm k pn fa e1 am dd rt b pd pt tp) [0, 1, 2, 3, 4, 5, 6, 7, 8, 9] rfl
  have hDc := hD.sub (ws' := wX h0 h1 h2 h3 h4 h5 h6 h7 h8 h9 cI cJ d r lc bg w rm k pn fa e1 am dd rt b pd pt tp) [0, 1, 2, 3, 4, 5, 6, 7, 8, 9] (by decide) rfl
  refine nk_icallx (wr := [(ho, .inl (cJ, 1, .inr (.inl (og))))]) (vx_runV (As := [.int p0]) (rest := [.int (nI 0), .ref ho]) ⟨hx, hb, hml, hown, hts⟩ (c_X0_setRate l hfl D h0 h1 h2 h3 h4 h5 h6 h7 h8 h9 cI cJ d r lc bg w rm k pn fa e1 am dd rt b pd pt tp s.heap.size p0 z a9 hz hpa) (cwV 1 hts gL_setRate_X0_setRate rfl rfl rfl (by decide +kernel) ⟨Nat.le_of_ble_eq_true rfl, Nat.le_of_ble_eq_true rfl⟩) ⟨nk_Px.blind, va_recv hK hPc (ci := 0) (q0 := 0) rfl rfl, fun U hU hW => ⟨rfl, by rw [hU], by rw [hU]; exact hPc, va_K.moved hW.alike hK, hDc.weaken (fun _ _ _ _ => trivial), by rw [hU]; exact nk_Z.go hZ hW hZn⟩⟩ rfl rfl hl.1 rfl (lv_room (Nat.le_of_ble_eq_true rfl)) dL_setRate_4 ⟨Nat.le_of_ble_eq_true rfl, Nat.le_of_ble_eq_true rfl⟩) hP hD hS hA [0, 1, 2, 3, 4, 5, 6, 7, 8, 9] [10] rfl rfl rfl (by decide) (fun E9 ce q9 H locs hE hz hk9 hP hS hce hcv hcl => ?_) (fun r8 w2 H locs hw hP hD hS hk9 => ?_)
  · obtain ⟨rfl, hc⟩ := hE
    refine vx_catch (own := RL) (name := RIA) hown [] ⟨0, 9, 12, 13⟩ [] (by rw [htb]; rfl) (fun z h => nomatch h) rfl (by decide) (hts (.classLink RL 13 RIA) (by decide +kernel)) (va_Nw.use (A := args) rfl hZ.2.1.1) hce hcv hcl ?_
    refine lv_astore_n (lv' := [(3, .ref q9), (0, .ref h0), (1, .int p0), (2, .ref ho)]) hx hb dL_setRate_12 rfl hl (by decide) rfl (fun ls hl => ?_)
    refine lv_iconst (v := nI 1) hx hb dL_setRate_13 (by decide +kernel) ?_
    have hP9 := hP.sub (ws' := (ho, .inl (cJ, 1, .inr (.inl (og)))) :: wX h0 h1 h2 h3 h4 h5 h6 h7 h8 h9 cI cJ d r lc bg w rm k pn fa e1 am dd rt b pd pt tp) [10, 0, 1, 2, 3, 4, 5, 6, 7, 8, 9] rfl
    have hD9 := hD.sub (ws' := (ho, .inl (cJ, 1, .inr (.inl (og)))) :: wX h0 h1 h2 h3 h4 h5 h6 h7 h8 h9 cI cJ d r lc bg w rm k pn fa e1 am dd rt b pd pt tp) [10, 0, 1, 2, 3, 4, 5, 6, 7, 8, 9] (by decide) rfl
    exact W.iret (v := nI 1) hx hb hr (fun t ht hW => ⟨⟨nI 1, _, rfl, Or.inr ⟨rfl, hc, rfl⟩, by rw [ht]; exact hP9, va_K.moved hW.alike hK, hD9⟩, hS.F ht⟩) hS.2.2 dL_setRate_14
  · refine lv_i2l hx hb dL_setRate_7 rfl ?_
    refine va_last hx hb hK hP hD hS 0 1 rfl rfl (vp_in_nI (by decide) (by decide)) dL_setRate_8 (fun H locs hP hD hS => ?_)
    have e0 : (nI 0).toNatClampNeg = 0 := nI_clamp (by decide)
    rw [e0] at hP hD
    have hP : va_P D vwCl ((ho, .inl (cJ, 1, .inr (.inl (vp_updL og 0 r8.toInt64)))) :: w2) H := hP
    have hD : va_D A ((ho, .inl (cJ, 1, .inr (.inl (vp_updL og 0 r8.toInt64)))) :: w2) := hD
    refine lv_goto (tgt := 15) hx hb dL_setRate_9 (by decide) ?_
    refine lv_iconst (v := nI 0) hx hb dL_setRate_15 (by decide +kernel) ?_
    exact W.iret (v := nI 0) hx hb hr (fun t ht hW => ⟨⟨nI 0, _, rfl, Or.inl ⟨rfl, r8, w2, hw, rfl⟩, by rw [ht]; exact hP, va_K.moved hW.alike hK, hD⟩, hS.F ht⟩) hS.2.2 dL_setRate_16
set_option maxHeartbeats 4000000 in
set_option maxRecDepth 100000 in
theorem c_L_draw (l : Launch) (hfl : l.stackTraces = false) (D : va_G) (h0 h1 h2 h3 h4 h5 h6 h7 h8 h9 : Nat) (cI cJ : ClassId) (d r lc bg w rm k pn : Nat) (fa e1 am dd rt b pd pt tp : Nat → Nat) (ho : Nat) (og : Nat → Int64) (sz : Nat) (p0 : Int32) (z : Int) (a9 : Nat)  (hz : p0.toInt = z) (hpa : 0 ≤ z → p0 = nI a9 ∧ a9 < 2147483648) (hlc : lc ≤ 2) (he : ∀ j, j < lc → e1 j ≤ 15001) (hk : k ≤ 20) (hrm : rm ≤ 10000000) : Met l yL_draw wsL_draw { frames := 8, cells := 1, slots := 6, locals := 135 } (nk_Px D (wX h0 h1 h2 h3 h4 h5 h6 h7 h8 h9 cI cJ d r lc bg w rm k pn fa e1 am dd rt b pd pt tp ++ [(ho, .inl (cJ, 1, .inr (.inl (og))))]) (tX cI cJ) sz [.ref h0, .int p0, .ref ho]) (va_Qi (fun r9 w1 => (r9 = nI 0 ∧ ∃ (r8 : Int32) (w2 : va_W), (fun r9 w1 => (1 ≤ z ∧ z ≤ 10000000) ∧ (0 < lc ∧ 0 < alive e1 lc) ∧ (a9 ≤ rm ∧ k < 20) ∧ r9 = nI (rm - a9) ∧ w1 = wX h0 h1 h2 h3 h4 h5 h6 h7 h8 h9 cI cJ d r lc bg w (rm - a9) (k + 1) pn fa e1 (va_up am k a9) (va_up dd k d) (va_up rt k r) (va_up b k (a9 * 10000)) pd pt tp) r8 w2 ∧ w1 = (ho, .inl (cJ, 1, .inr (.inl (vp_updL og 0 r8.toInt64)))) :: w2) ∨ (r9 = nI 1 ∧ (¬ (1 ≤ z ∧ z ≤ 10000000)) ∧ w1 = (ho, .inl (cJ, 1, .inr (.inl (og)))) :: wX h0 h1 h2 h3 h4 h5 h6 h7 h8 h9 cI cJ d r lc bg w rm k pn fa e1 am dd rt b pd pt tp) ∨ (r9 = nI 2 ∧ ((1 ≤ z ∧ z ≤ 10000000) ∧ ¬ ((0 < lc ∧ 0 < alive e1 lc) ∧ (a9 ≤ rm ∧ k < 20))) ∧ w1 = (ho, .inl (cJ, 1, .inr (.inl (og)))) :: wX h0 h1 h2 h3 h4 h5 h6 h7 h8 h9 cI cJ d r lc bg w rm k pn fa e1 am dd rt b pd pt tp)) (fun w1 t => nk_At D (tX cI cJ) (va_A (wX h0 h1 h2 h3 h4 h5 h6 h7 h8 h9 cI cJ d r lc bg w rm k pn fa e1 am dd rt b pd pt tp ++ [(ho, .inl (cJ, 1, .inr (.inl (og))))]) sz) w1 t) (va_A (wX h0 h1 h2 h3 h4 h5 h6 h7 h8 h9 cI cJ d r lc bg w rm k pn fa e1 am dd rt b pd pt tp ++ [(ho, .inl (cJ, 1, .inr (.inl (og))))]) sz)) 1 6 (va_A (wX h0 h1 h2 h3 h4 h5 h6 h7 h8 h9 cI cJ d r lc bg w rm k pn fa e1 am dd rt b pd pt tp ++ [(ho, .inl (cJ, 1, .inr (.inl (og))))]) sz) := by
  refine va_MetW (cc := cL_draw) (maxL := 4) (ret := (some .int)) (hh := [(0, 9, 12, 13), (0, 9, 15, 15)]) (by decide) rfl ?_
  intro p e s m args below meth c s₁ B hml hv
  obtain ⟨hargs, hsz, hP, hK, hD0, hZ⟩ := hv
  have hx := B.exec
  have hb := B.bytes
  have hr := B.returns
  have hts := atoms_spec (ws := wsL_draw) B.pre
  have hown : s.vm.findClass RL = some m.cls := findClass_of_methodNamed B.named
  have hlocks := B.notSynchronized
  have htb : c.exceptionTable.toList = tableOf [(0, 9, 12, 13), (0, 9, 15, 15)] := vx_table (x := yL_draw) B (hts (.codeWith yL_draw cL_draw 4 (some .int) [(0, 9, 12, 13), (0, 9, 15, 15)]) (by unfold wsL_draw; exact List.mem_cons_self))
  subst hsz
  have hD := hD0.self (sz := s.heap.size)
  have hZn : ∀ q, va_A (wX h0 h1 h2 h3 h4 h5 h6 h7 h8 h9 cI cJ d r lc bg w rm k pn fa e1 am dd rt b pd pt tp) s.heap.size q → va_A (wX h0 h1 h2 h3 h4 h5 h6 h7 h8 h9 cI cJ d r lc bg w rm k pn fa e1 am dd rt b pd pt tp ++ [(ho, .inl (cJ, 1, .inr (.inl (og))))]) s.heap.size q := fun q h => h.elim (fun ⟨k, e, hk⟩ => by
    have hk9 : k < 10 := by
      have := (List.getElem?_eq_some_iff.mp hk).1
      exact this
    exact Or.inl ⟨k, e, by rw [List.getElem?_append_left (by exact hk9)]; exact hk⟩) (fun h => Or.inr h)
  generalize hAe : va_A (wX h0 h1 h2 h3 h4 h5 h6 h7 h8 h9 cI cJ d r lc bg w rm k pn fa e1 am dd rt b pd pt tp ++ [(ho, .inl (cJ, 1, .inr (.inl (og))))]) s.heap.size = A at hD ⊢
  have hA : ∀ q : Nat, s.heap.size ≤ q → A q := fun q h => by rw [← hAe]; exact Or.inr h
  have hS : va_S A s.heap s.heap [] := va_S.rf
  have hl := lv_entry ([.ref h0, .int p0, .ref ho]) (n := 4) (Nat.le_of_ble_eq_true rfl)
  have hEe : entryFrame m args 4 = entryFrame m ([.ref h0, .int p0, .ref ho] : List Value).toArray 4 := by rw [hargs]
  rw [hEe, lg_entry_eq]
  generalize (lg_sl ([.ref h0, .int p0, .ref ho]) ++ List.replicate (4 - (lg_sl ([.ref h0, .int p0, .ref ho])).length) Slot.unset).toArray = ls at hl ⊢
  have hl : lv_has ls 4 [(0, .ref h0), (1, .int p0), (2, .ref ho)] := hl
  refine lv_aload_n hx hb dL_draw_0 rfl (lv_at hl 2 rfl) ?_
  refine lv_iconst (v := nI 0) hx hb dL_draw_1 (by decide +kernel) ?_
  refine lv_aload_n hx hb dL_draw_2 rfl (lv_at hl 0 rfl) ?_
  refine lv_iload_n hx hb dL_draw_3 rfl (lv_at hl 1 rfl) ?_
  have hPc := hP.sub (ws' := wX h0 h1 h2 h3 h4 h5 h6 h7 h8 h9 cI cJ d r lc bg w rm k pn fa e1 am dd rt b pd pt tp) [0, 1, 2, 3, 4, 5, 6, 7, 8, 9] rfl
  have hDc := hD.sub (ws' := wX h0 h1 h2 h3 h4 h5 h6 h7 h8 h9 cI cJ d r lc bg w rm k pn fa e1 am dd rt b pd pt tp) [0, 1, 2, 3, 4, 5, 6, 7, 8, 9] (by decide) rfl
  refine nk_icallx (wr := [(ho, .inl (cJ, 1, .inr (.inl (og))))]) (vx_runV (As := [.int p0]) (rest := [.int (nI 0), .ref ho]) ⟨hx, hb, hml, hown, hts⟩ (c_X0_draw l hfl D h0 h1 h2 h3 h4 h5 h6 h7 h8 h9 cI cJ d r lc bg w rm k pn fa e1 am dd rt b pd pt tp s.heap.size p0 z a9 hz hpa hlc he hk hrm) (cwV 1 hts gL_draw_X0_draw rfl rfl rfl (by decide +kernel) ⟨Nat.le_of_ble_eq_true rfl, Nat.le_of_ble_eq_true rfl⟩) ⟨nk_Px.blind, va_recv hK hPc (ci := 0) (q0 := 0) rfl rfl, fun U hU hW => ⟨rfl, by rw [hU], by rw [hU]; exact hPc, va_K.moved hW.alike hK, hDc.weaken (fun _ _ _ _ => trivial), by rw [hU]; exact nk_Z.go hZ hW hZn⟩⟩ rfl rfl hl.1 rfl (lv_room (Nat.le_of_ble_eq_true rfl)) dL_draw_4 ⟨Nat.le_of_ble_eq_true rfl, Nat.le_of_ble_eq_true rfl⟩) hP hD hS hA [0, 1, 2, 3, 4, 5, 6, 7, 8, 9] [10] rfl rfl rfl (by decide) (fun E9 ce q9 H locs hE hz hk9 hP hS hce hcv hcl => ?_) (fun r8 w2 H locs hw hP hD hS hk9 => ?_)
  · rcases hE with ⟨rfl, hc⟩ | ⟨rfl, hc⟩
    · refine vx_catch (own := RL) (name := RIA) hown [] ⟨0, 9, 12, 13⟩ [⟨0, 9, 15, 15⟩] (by rw [htb]; rfl) (fun z h => nomatch h) rfl (by decide) (hts (.classLink RL 13 RIA) (by decide +kernel)) (va_Nw.use (A := args) rfl hZ.2.1.1) hce hcv hcl ?_
      refine lv_astore_n (lv' := [(3, .ref q9), (0, .ref h0), (1, .int p0), (2, .ref ho)]) hx hb dL_draw_12 rfl hl (by decide) rfl (fun ls hl => ?_)
      refine lv_iconst (v := nI 1) hx hb dL_draw_13 (by decide +kernel) ?_
      have hP9 := hP.sub (ws' := (ho, .inl (cJ, 1, .inr (.inl (og)))) :: wX h0 h1 h2 h3 h4 h5 h6 h7 h8 h9 cI cJ d r lc bg w rm k pn fa e1 am dd rt b pd pt tp) [10, 0, 1, 2, 3, 4, 5, 6, 7, 8, 9] rfl
      have hD9 := hD.sub (ws' := (ho, .inl (cJ, 1, .inr (.inl (og)))) :: wX h0 h1 h2 h3 h4 h5 h6 h7 h8 h9 cI cJ d r lc bg w rm k pn fa e1 am dd rt b pd pt tp) [10, 0, 1, 2, 3, 4, 5, 6, 7, 8, 9] (by decide) rfl
      exact W.iret (v := nI 1) hx hb hr (fun t ht hW => ⟨⟨nI 1, _, rfl, Or.inr (Or.inl ⟨rfl, hc, rfl⟩), by rw [ht]; exact hP9, va_K.moved hW.alike hK, hD9⟩, hS.F ht⟩) hS.2.2 dL_draw_14
    · refine vx_catch (own := RL) (name := RIS) hown [⟨0, 9, 12, 13⟩] ⟨0, 9, 15, 15⟩ [] (by rw [htb]; rfl) (fun z h => by rw [List.mem_singleton] at h; subst h; exact Or.inr ⟨by decide, RIA, hts (.classLink RL 13 RIA) (by decide +kernel), hZ.2.1.2.2.2.1⟩) rfl (by decide) (hts (.classLink RL 15 RIS) (by decide +kernel)) (va_Nw.use (A := args) rfl hZ.2.1.2.1) hce hcv hcl ?_
      refine lv_astore_n (lv' := [(3, .ref q9), (0, .ref h0), (1, .int p0), (2, .ref ho)]) hx hb dL_draw_15 rfl hl (by decide) rfl (fun ls hl => ?_)
      refine lv_iconst (v := nI 2) hx hb dL_draw_16 (by decide +kernel) ?_
      have hP9 := hP.sub (ws' := (ho, .inl (cJ, 1, .inr (.inl (og)))) :: wX h0 h1 h2 h3 h4 h5 h6 h7 h8 h9 cI cJ d r lc bg w rm k pn fa e1 am dd rt b pd pt tp) [10, 0, 1, 2, 3, 4, 5, 6, 7, 8, 9] rfl
      have hD9 := hD.sub (ws' := (ho, .inl (cJ, 1, .inr (.inl (og)))) :: wX h0 h1 h2 h3 h4 h5 h6 h7 h8 h9 cI cJ d r lc bg w rm k pn fa e1 am dd rt b pd pt tp) [10, 0, 1, 2, 3, 4, 5, 6, 7, 8, 9] (by decide) rfl
      exact W.iret (v := nI 2) hx hb hr (fun t ht hW => ⟨⟨nI 2, _, rfl, Or.inr (Or.inr ⟨rfl, hc, rfl⟩), by rw [ht]; exact hP9, va_K.moved hW.alike hK, hD9⟩, hS.F ht⟩) hS.2.2 dL_draw_17
  · refine lv_i2l hx hb dL_draw_7 rfl ?_
    refine va_last hx hb hK hP hD hS 0 1 rfl rfl (vp_in_nI (by decide) (by decide)) dL_draw_8 (fun H locs hP hD hS => ?_)
    have e0 : (nI 0).toNatClampNeg = 0 := nI_clamp (by decide)
    rw [e0] at hP hD
    have hP : va_P D vwCl ((ho, .inl (cJ, 1, .inr (.inl (vp_updL og 0 r8.toInt64)))) :: w2) H := hP
    have hD : va_D A ((ho, .inl (cJ, 1, .inr (.inl (vp_updL og 0 r8.toInt64)))) :: w2) := hD
    refine lv_goto (tgt := 18) hx hb dL_draw_9 (by decide) ?_
    refine lv_iconst (v := nI 0) hx hb dL_draw_18 (by decide +kernel) ?_
    exact W.iret (v := nI 0) hx hb hr (fun t ht hW => ⟨⟨nI 0, _, rfl, Or.inl ⟨rfl, r8, w2, hw, rfl⟩, by rw [ht]; exact hP, va_K.moved hW.alike hK, hD⟩, hS.F ht⟩) hS.2.2 dL_draw_19
set_option maxHeartbeats 4000000 in
set_option maxRecDepth 100000 in
theorem c_L_pay (l : Launch) (hfl : l.stackTraces = false) (D : va_G) (h0 h1 h2 h3 h4 h5 h6 h7 h8 h9 : Nat) (cI cJ : ClassId) (d r lc bg w rm k pn : Nat) (fa e1 am dd rt b pd pt tp : Nat → Nat) (ho : Nat) (og : Nat → Int64) (sz : Nat) (p0 : Int32) (z : Int) (a9 : Nat)  (hz : p0.toInt = z) (hpa : 0 ≤ z → p0 = nI a9 ∧ a9 < 2147483648) (hlc : lc ≤ 2) (he : ∀ j, j < lc → e1 j ≤ 15001) (hed : ∀ j, j < lc → e1 j ≤ d + 1) (hk : k ≤ 20) (ham : ∀ j, j < k → am j ≤ 10000000) (hpn : pn ≤ 40) (hbg : bg ≤ d) (hd : d ≤ 15000) (hpd : ∀ j, j < pn → bg ≤ pd j ∧ pd j ≤ 15000) (hpt : ∀ j, j < pn → pt j ≤ 10000000) (hbs : sm b k < 4611686018427387904) (hb9 : ∀ j, j < k → b j < 4611686018427387904) : Met l yL_pay wsL_pay { frames := 8, cells := 1, slots := 6, locals := 136 } (nk_Px D (wX h0 h1 h2 h3 h4 h5 h6 h7 h8 h9 cI cJ d r lc bg w rm k pn fa e1 am dd rt b pd pt tp ++ [(ho, .inl (cJ, 1, .inr (.inl (og))))]) (tX cI cJ) sz [.ref h0, .int p0, .ref ho]) (va_Qi (fun r9 w1 => (r9 = nI 0 ∧ ∃ (r8 : Int32) (w2 : va_W), (fun r9 w1 => (1 ≤ z ∧ z ≤ 10000000) ∧ (0 < lc ∧ 0 < alive e1 lc) ∧ (a9 ≤ ceilA (sm b k) ∧ pn < 40) ∧ r9 = nI (chg (mxE e1 lc) d ((d - bg) / 365) (sm am k) (pY bg pd pt ((d - bg) / 365) pn) a9) ∧ w1 = wX h0 h1 h2 h3 h4 h5 h6 h7 h8 h9 cI cJ d r lc bg w rm k (pn + 1) fa e1 am dd rt (tkB b (a9 * 10000) k) (va_up pd pn d) (va_up pt pn a9) (tkT tp b (a9 * 10000) pn k)) r8 w2 ∧ w1 = (ho, .inl (cJ, 1, .inr (.inl (vp_updL og 0 r8.toInt64)))) :: w2) ∨ (r9 = nI 1 ∧ (¬ (1 ≤ z ∧ z ≤ 10000000)) ∧ w1 = (ho, .inl (cJ, 1, .inr (.inl (og)))) :: wX h0 h1 h2 h3 h4 h5 h6 h7 h8 h9 cI cJ d r lc bg w rm k pn fa e1 am dd rt b pd pt tp) ∨ (r9 = nI 2 ∧ ((1 ≤ z ∧ z ≤ 10000000) ∧ ¬ ((0 < lc ∧ 0 < alive e1 lc) ∧ (a9 ≤ ceilA (sm b k) ∧ pn < 40))) ∧ w1 = (ho, .inl (cJ, 1, .inr (.inl (og)))) :: wX h0 h1 h2 h3 h4 h5 h6 h7 h8 h9 cI cJ d r lc bg w rm k pn fa e1 am dd rt b pd pt tp)) (fun w1 t => nk_At D (tX cI cJ) (va_A (wX h0 h1 h2 h3 h4 h5 h6 h7 h8 h9 cI cJ d r lc bg w rm k pn fa e1 am dd rt b pd pt tp ++ [(ho, .inl (cJ, 1, .inr (.inl (og))))]) sz) w1 t) (va_A (wX h0 h1 h2 h3 h4 h5 h6 h7 h8 h9 cI cJ d r lc bg w rm k pn fa e1 am dd rt b pd pt tp ++ [(ho, .inl (cJ, 1, .inr (.inl (og))))]) sz)) 1 6 (va_A (wX h0 h1 h2 h3 h4 h5 h6 h7 h8 h9 cI cJ d r lc bg w rm k pn fa e1 am dd rt b pd pt tp ++ [(ho, .inl (cJ, 1, .inr (.inl (og))))]) sz) := by
  refine va_MetW (cc := cL_pay) (maxL := 4) (ret := (some .int)) (hh := [(0, 9, 12, 13), (0, 9, 15, 15)]) (by decide) rfl ?_
  intro p e s m args below meth c s₁ B hml hv
  obtain ⟨hargs, hsz, hP, hK, hD0, hZ⟩ := hv
  have hx := B.exec
  have hb := B.bytes
  have hr := B.returns
  have hts := atoms_spec (ws := wsL_pay) B.pre
  have hown : s.vm.findClass RL = some m.cls := findClass_of_methodNamed B.named
  have hlocks := B.notSynchronized
  have htb : c.exceptionTable.toList = tableOf [(0, 9, 12, 13), (0, 9, 15, 15)] := vx_table (x := yL_pay) B (hts (.codeWith yL_pay cL_pay 4 (some .int) [(0, 9, 12, 13), (0, 9, 15, 15)]) (by unfold wsL_pay; exact List.mem_cons_self))
  subst hsz
  have hD := hD0.self (sz := s.heap.size)
  have hZn : ∀ q, va_A (wX h0 h1 h2 h3 h4 h5 h6 h7 h8 h9 cI cJ d r lc bg w rm k pn fa e1 am dd rt b pd pt tp) s.heap.size q → va_A (wX h0 h1 h2 h3 h4 h5 h6 h7 h8 h9 cI cJ d r lc bg w rm k pn fa e1 am dd rt b pd pt tp ++ [(ho, .inl (cJ, 1, .inr (.inl (og))))]) s.heap.size q := fun q h => h.elim (fun ⟨k, e, hk⟩ => by
    have hk9 : k < 10 := by
      have := (List.getElem?_eq_some_iff.mp hk).1
      exact this
    exact Or.inl ⟨k, e, by rw [List.getElem?_append_left (by exact hk9)]; exact hk⟩) (fun h => Or.inr h)
  generalize hAe : va_A (wX h0 h1 h2 h3 h4 h5 h6 h7 h8 h9 cI cJ d r lc bg w rm k pn fa e1 am dd rt b pd pt tp ++ [(ho, .inl (cJ, 1, .inr (.inl (og))))]) s.heap.size = A at hD ⊢
  have hA : ∀ q : Nat, s.heap.size ≤ q → A q := fun q h => by rw [← hAe]; exact Or.inr h
  have hS : va_S A s.heap s.heap [] := va_S.rf
  have hl := lv_entry ([.ref h0, .int p0, .ref ho]) (n := 4) (Nat.le_of_ble_eq_true rfl)
  have hEe : entryFrame m args 4 = entryFrame m ([.ref h0, .int p0, .ref ho] : List Value).toArray 4 := by rw [hargs]
  rw [hEe, lg_entry_eq]
  generalize (lg_sl ([.ref h0, .int p0, .ref ho]) ++ List.replicate (4 - (lg_sl ([.ref h0, .int p0, .ref ho])).length) Slot.unset).toArray = ls at hl ⊢
  have hl : lv_has ls 4 [(0, .ref h0), (1, .int p0), (2, .ref ho)] := hl
  refine lv_aload_n hx hb dL_pay_0 rfl (lv_at hl 2 rfl) ?_
  refine lv_iconst (v := nI 0) hx hb dL_pay_1 (by decide +kernel) ?_
  refine lv_aload_n hx hb dL_pay_2 rfl (lv_at hl 0 rfl) ?_
  refine lv_iload_n hx hb dL_pay_3 rfl (lv_at hl 1 rfl) ?_
  have hPc := hP.sub (ws' := wX h0 h1 h2 h3 h4 h5 h6 h7 h8 h9 cI cJ d r lc bg w rm k pn fa e1 am dd rt b pd pt tp) [0, 1, 2, 3, 4, 5, 6, 7, 8, 9] rfl
  have hDc := hD.sub (ws' := wX h0 h1 h2 h3 h4 h5 h6 h7 h8 h9 cI cJ d r lc bg w rm k pn fa e1 am dd rt b pd pt tp) [0, 1, 2, 3, 4, 5, 6, 7, 8, 9] (by decide) rfl
  refine nk_icallx (wr := [(ho, .inl (cJ, 1, .inr (.inl (og))))]) (vx_runV (As := [.int p0]) (rest := [.int (nI 0), .ref ho]) ⟨hx, hb, hml, hown, hts⟩ (c_X0_pay l hfl D h0 h1 h2 h3 h4 h5 h6 h7 h8 h9 cI cJ d r lc bg w rm k pn fa e1 am dd rt b pd pt tp s.heap.size p0 z a9 hz hpa hlc he hed hk ham hpn hbg hd hpd hpt hbs hb9) (cwV 1 hts gL_pay_X0_pay rfl rfl rfl (by decide +kernel) ⟨Nat.le_of_ble_eq_true rfl, Nat.le_of_ble_eq_true rfl⟩) ⟨nk_Px.blind, va_recv hK hPc (ci := 0) (q0 := 0) rfl rfl, fun U hU hW => ⟨rfl, by rw [hU], by rw [hU]; exact hPc, va_K.moved hW.alike hK, hDc.weaken (fun _ _ _ _ => trivial), by rw [hU]; exact nk_Z.go hZ hW hZn⟩⟩ rfl rfl hl.1 rfl (lv_room (Nat.le_of_ble_eq_true rfl)) dL_pay_4 ⟨Nat.le_of_ble_eq_true rfl, Nat.le_of_ble_eq_true rfl⟩) hP hD hS hA [0, 1, 2, 3, 4, 5, 6, 7, 8, 9] [10] rfl rfl rfl (by decide) (fun E9 ce q9 H locs hE hz hk9 hP hS hce hcv hcl => ?_) (fun r8 w2 H locs hw hP hD hS hk9 => ?_)
  · rcases hE with ⟨rfl, hc⟩ | ⟨rfl, hc⟩
    · refine vx_catch (own := RL) (name := RIA) hown [] ⟨0, 9, 12, 13⟩ [⟨0, 9, 15, 15⟩] (by rw [htb]; rfl) (fun z h => nomatch h) rfl (by decide) (hts (.classLink RL 13 RIA) (by decide +kernel)) (va_Nw.use (A := args) rfl hZ.2.1.1) hce hcv hcl ?_
      refine lv_astore_n (lv' := [(3, .ref q9), (0, .ref h0), (1, .int p0), (2, .ref ho)]) hx hb dL_pay_12 rfl hl (by decide) rfl (fun ls hl => ?_)
      refine lv_iconst (v := nI 1) hx hb dL_pay_13 (by decide +kernel) ?_
      have hP9 := hP.sub (ws' := (ho, .inl (cJ, 1, .inr (.inl (og)))) :: wX h0 h1 h2 h3 h4 h5 h6 h7 h8 h9 cI cJ d r lc bg w rm k pn fa e1 am dd rt b pd pt tp) [10, 0, 1, 2, 3, 4, 5, 6, 7, 8, 9] rfl
      have hD9 := hD.sub (ws' := (ho, .inl (cJ, 1, .inr (.inl (og)))) :: wX h0 h1 h2 h3 h4 h5 h6 h7 h8 h9 cI cJ d r lc bg w rm k pn fa e1 am dd rt b pd pt tp) [10, 0, 1, 2, 3, 4, 5, 6, 7, 8, 9] (by decide) rfl
      exact W.iret (v := nI 1) hx hb hr (fun t ht hW => ⟨⟨nI 1, _, rfl, Or.inr (Or.inl ⟨rfl, hc, rfl⟩), by rw [ht]; exact hP9, va_K.moved hW.alike hK, hD9⟩, hS.F ht⟩) hS.2.2 dL_pay_14
    · refine vx_catch (own := RL) (name := RIS) hown [⟨0, 9, 12, 13⟩] ⟨0, 9, 15, 15⟩ [] (by rw [htb]; rfl) (fun z h => by rw [List.mem_singleton] at h; subst h; exact Or.inr ⟨by decide, RIA, hts (.classLink RL 13 RIA) (by decide +kernel), hZ.2.1.2.2.2.1⟩) rfl (by decide) (hts (.classLink RL 15 RIS) (by decide +kernel)) (va_Nw.use (A := args) rfl hZ.2.1.2.1) hce hcv hcl ?_
      refine lv_astore_n (lv' := [(3, .ref q9), (0, .ref h0), (1, .int p0), (2, .ref ho)]) hx hb dL_pay_15 rfl hl (by decide) rfl (fun ls hl => ?_)
      refine lv_iconst (v := nI 2) hx hb dL_pay_16 (by decide +kernel) ?_
      have hP9 := hP.sub (ws' := (ho, .inl (cJ, 1, .inr (.inl (og)))) :: wX h0 h1 h2 h3 h4 h5 h6 h7 h8 h9 cI cJ d r lc bg w rm k pn fa e1 am dd rt b pd pt tp) [10, 0, 1, 2, 3, 4, 5, 6, 7, 8, 9] rfl
      have hD9 := hD.sub (ws' := (ho, .inl (cJ, 1, .inr (.inl (og)))) :: wX h0 h1 h2 h3 h4 h5 h6 h7 h8 h9 cI cJ d r lc bg w rm k pn fa e1 am dd rt b pd pt tp) [10, 0, 1, 2, 3, 4, 5, 6, 7, 8, 9] (by decide) rfl
      exact W.iret (v := nI 2) hx hb hr (fun t ht hW => ⟨⟨nI 2, _, rfl, Or.inr (Or.inr ⟨rfl, hc, rfl⟩), by rw [ht]; exact hP9, va_K.moved hW.alike hK, hD9⟩, hS.F ht⟩) hS.2.2 dL_pay_17
  · refine lv_i2l hx hb dL_pay_7 rfl ?_
    refine va_last hx hb hK hP hD hS 0 1 rfl rfl (vp_in_nI (by decide) (by decide)) dL_pay_8 (fun H locs hP hD hS => ?_)
    have e0 : (nI 0).toNatClampNeg = 0 := nI_clamp (by decide)
    rw [e0] at hP hD
    have hP : va_P D vwCl ((ho, .inl (cJ, 1, .inr (.inl (vp_updL og 0 r8.toInt64)))) :: w2) H := hP
    have hD : va_D A ((ho, .inl (cJ, 1, .inr (.inl (vp_updL og 0 r8.toInt64)))) :: w2) := hD
    refine lv_goto (tgt := 18) hx hb dL_pay_9 (by decide) ?_
    refine lv_iconst (v := nI 0) hx hb dL_pay_18 (by decide +kernel) ?_
    exact W.iret (v := nI 0) hx hb hr (fun t ht hW => ⟨⟨nI 0, _, rfl, Or.inl ⟨rfl, r8, w2, hw, rfl⟩, by rw [ht]; exact hP, va_K.moved hW.alike hK, hD⟩, hS.F ht⟩) hS.2.2 dL_pay_19
set_option maxHeartbeats 4000000 in
set_option maxRecDepth 100000 in
theorem c_L_pass (l : Launch) (hfl : l.stackTraces = false) (D : va_G) (h0 h1 h2 h3 h4 h5 h6 h7 h8 h9 : Nat) (cI cJ : ClassId) (d r lc bg w rm k pn : Nat) (fa e1 am dd rt b pd pt tp : Nat → Nat) (ho : Nat) (og : Nat → Int64) (sz : Nat) (p0 : Int32) (z : Int) (a9 : Nat)  (hz : p0.toInt = z) (hpa : 0 ≤ z → p0 = nI a9 ∧ a9 < 2147483648) (hlc : lc ≤ 2) (he : ∀ j, j < lc → e1 j ≤ 15001) (hk : k ≤ 20) (hd : d ≤ 15000) (hroll : ∀ q, q < k → ∀ j, d + j ≤ 15000 → roll (rt q) (b q) j * rt q < 9223372036854775808) (hrt : ∀ q, q < k → rt q ≤ 2000)  : Met l yL_pass wsL_pass { frames := 8, cells := 1, slots := 6, locals := 136 } (nk_Px D (wX h0 h1 h2 h3 h4 h5 h6 h7 h8 h9 cI cJ d r lc bg w rm k pn fa e1 am dd rt b pd pt tp ++ [(ho, .inl (cJ, 1, .inr (.inl (og))))]) (tX cI cJ) sz [.ref h0, .int p0, .ref ho]) (va_Qi (fun r9 w1 => (r9 = nI 0 ∧ ∃ (r8 : Int32) (w2 : va_W), (fun r9 w1 => (1 ≤ z ∧ z ≤ 3650) ∧ d + a9 ≤ 15000 ∧ r9 = nI (d + a9) ∧ (((0 < lc ∧ alive e1 lc = 0) ∧ w1 = wX h0 h1 h2 h3 h4 h5 h6 h7 h8 h9 cI cJ (d + a9) r lc bg w rm k pn fa e1 am dd rt b pd pt tp) ∨ (¬ (0 < lc ∧ alive e1 lc = 0) ∧ w1 = wX h0 h1 h2 h3 h4 h5 h6 h7 h8 h9 cI cJ (d + a9) r lc bg w rm k pn fa e1 am dd rt (rlB rt b a9 k) pd pt tp))) r8 w2 ∧ w1 = (ho, .inl (cJ, 1, .inr (.inl (vp_updL og 0 r8.toInt64)))) :: w2) ∨ (r9 = nI 1 ∧ (¬ (1 ≤ z ∧ z ≤ 3650)) ∧ w1 = (ho, .inl (cJ, 1, .inr (.inl (og)))) :: wX h0 h1 h2 h3 h4 h5 h6 h7 h8 h9 cI cJ d r lc bg w rm k pn fa e1 am dd rt b pd pt tp) ∨ (r9 = nI 2 ∧ ((1 ≤ z ∧ z ≤ 3650) ∧ ¬ (d + a9 ≤ 15000)) ∧ w1 = (ho, .inl (cJ, 1, .inr (.inl (og)))) :: wX h0 h1 h2 h3 h4 h5 h6 h7 h8 h9 cI cJ d r lc bg w rm k pn fa e1 am dd rt b pd pt tp)) (fun w1 t => nk_At D (tX cI cJ) (va_A (wX h0 h1 h2 h3 h4 h5 h6 h7 h8 h9 cI cJ d r lc bg w rm k pn fa e1 am dd rt b pd pt tp ++ [(ho, .inl (cJ, 1, .inr (.inl (og))))]) sz) w1 t) (va_A (wX h0 h1 h2 h3 h4 h5 h6 h7 h8 h9 cI cJ d r lc bg w rm k pn fa e1 am dd rt b pd pt tp ++ [(ho, .inl (cJ, 1, .inr (.inl (og))))]) sz)) 1 6 (va_A (wX h0 h1 h2 h3 h4 h5 h6 h7 h8 h9 cI cJ d r lc bg w rm k pn fa e1 am dd rt b pd pt tp ++ [(ho, .inl (cJ, 1, .inr (.inl (og))))]) sz) := by
  refine va_MetW (cc := cL_pass) (maxL := 4) (ret := (some .int)) (hh := [(0, 9, 12, 13), (0, 9, 15, 15)]) (by decide) rfl ?_
  intro p e s m args below meth c s₁ B hml hv
  obtain ⟨hargs, hsz, hP, hK, hD0, hZ⟩ := hv
  have hx := B.exec
  have hb := B.bytes
  have hr := B.returns
  have hts := atoms_spec (ws := wsL_pass) B.pre
  have hown : s.vm.findClass RL = some m.cls := findClass_of_methodNamed B.named
  have hlocks := B.notSynchronized
  have htb : c.exceptionTable.toList = tableOf [(0, 9, 12, 13), (0, 9, 15, 15)] := vx_table (x := yL_pass) B (hts (.codeWith yL_pass cL_pass 4 (some .int) [(0, 9, 12, 13), (0, 9, 15, 15)]) (by unfold wsL_pass; exact List.mem_cons_self))
  subst hsz
  have hD := hD0.self (sz := s.heap.size)
  have hZn : ∀ q, va_A (wX h0 h1 h2 h3 h4 h5 h6 h7 h8 h9 cI cJ d r lc bg w rm k pn fa e1 am dd rt b pd pt tp) s.heap.size q → va_A (wX h0 h1 h2 h3 h4 h5 h6 h7 h8 h9 cI cJ d r lc bg w rm k pn fa e1 am dd rt b pd pt tp ++ [(ho, .inl (cJ, 1, .inr (.inl (og))))]) s.heap.size q := fun q h => h.elim (fun ⟨k, e, hk⟩ => by
    have hk9 : k < 10 := by
      have := (List.getElem?_eq_some_iff.mp hk).1
      exact this
    exact Or.inl ⟨k, e, by rw [List.getElem?_append_left (by exact hk9)]; exact hk⟩) (fun h => Or.inr h)
  generalize hAe : va_A (wX h0 h1 h2 h3 h4 h5 h6 h7 h8 h9 cI cJ d r lc bg w rm k pn fa e1 am dd rt b pd pt tp ++ [(ho, .inl (cJ, 1, .inr (.inl (og))))]) s.heap.size = A at hD ⊢
  have hA : ∀ q : Nat, s.heap.size ≤ q → A q := fun q h => by rw [← hAe]; exact Or.inr h
  have hS : va_S A s.heap s.heap [] := va_S.rf
  have hl := lv_entry ([.ref h0, .int p0, .ref ho]) (n := 4) (Nat.le_of_ble_eq_true rfl)
  have hEe : entryFrame m args 4 = entryFrame m ([.ref h0, .int p0, .ref ho] : List Value).toArray 4 := by rw [hargs]
  rw [hEe, lg_entry_eq]
  generalize (lg_sl ([.ref h0, .int p0, .ref ho]) ++ List.replicate (4 - (lg_sl ([.ref h0, .int p0, .ref ho])).length) Slot.unset).toArray = ls at hl ⊢
  have hl : lv_has ls 4 [(0, .ref h0), (1, .int p0), (2, .ref ho)] := hl
  refine lv_aload_n hx hb dL_pass_0 rfl (lv_at hl 2 rfl) ?_
  refine lv_iconst (v := nI 0) hx hb dL_pass_1 (by decide +kernel) ?_
  refine lv_aload_n hx hb dL_pass_2 rfl (lv_at hl 0 rfl) ?_
  refine lv_iload_n hx hb dL_pass_3 rfl (lv_at hl 1 rfl) ?_
  have hPc := hP.sub (ws' := wX h0 h1 h2 h3 h4 h5 h6 h7 h8 h9 cI cJ d r lc bg w rm k pn fa e1 am dd rt b pd pt tp) [0, 1, 2, 3, 4, 5, 6, 7, 8, 9] rfl
  have hDc := hD.sub (ws' := wX h0 h1 h2 h3 h4 h5 h6 h7 h8 h9 cI cJ d r lc bg w rm k pn fa e1 am dd rt b pd pt tp) [0, 1, 2, 3, 4, 5, 6, 7, 8, 9] (by decide) rfl
  refine nk_icallx (wr := [(ho, .inl (cJ, 1, .inr (.inl (og))))]) (vx_runV (As := [.int p0]) (rest := [.int (nI 0), .ref ho]) ⟨hx, hb, hml, hown, hts⟩ (c_X0_pass l hfl D h0 h1 h2 h3 h4 h5 h6 h7 h8 h9 cI cJ d r lc bg w rm k pn fa e1 am dd rt b pd pt tp s.heap.size p0 z a9 hz hpa hlc he hk hd hroll hrt) (cwV 1 hts gL_pass_X0_pass rfl rfl rfl (by decide +kernel) ⟨Nat.le_of_ble_eq_true rfl, Nat.le_of_ble_eq_true rfl⟩) ⟨nk_Px.blind, va_recv hK hPc (ci := 0) (q0 := 0) rfl rfl, fun U hU hW => ⟨rfl, by rw [hU], by rw [hU]; exact hPc, va_K.moved hW.alike hK, hDc.weaken (fun _ _ _ _ => trivial), by rw [hU]; exact nk_Z.go hZ hW hZn⟩⟩ rfl rfl hl.1 rfl (lv_room (Nat.le_of_ble_eq_true rfl)) dL_pass_4 ⟨Nat.le_of_ble_eq_true rfl, Nat.le_of_ble_eq_true rfl⟩) hP hD hS hA [0, 1, 2, 3, 4, 5, 6, 7, 8, 9] [10] rfl rfl rfl (by decide) (fun E9 ce q9 H locs hE hz hk9 hP hS hce hcv hcl => ?_) (fun r8 w2 H locs hw hP hD hS hk9 => ?_)
  · rcases hE with ⟨rfl, hc⟩ | ⟨rfl, hc⟩
    · refine vx_catch (own := RL) (name := RIA) hown [] ⟨0, 9, 12, 13⟩ [⟨0, 9, 15, 15⟩] (by rw [htb]; rfl) (fun z h => nomatch h) rfl (by decide) (hts (.classLink RL 13 RIA) (by decide +kernel)) (va_Nw.use (A := args) rfl hZ.2.1.1) hce hcv hcl ?_
      refine lv_astore_n (lv' := [(3, .ref q9), (0, .ref h0), (1, .int p0), (2, .ref ho)]) hx hb dL_pass_12 rfl hl (by decide) rfl (fun ls hl => ?_)
      refine lv_iconst (v := nI 1) hx hb dL_pass_13 (by decide +kernel) ?_
      have hP9 := hP.sub (ws' := (ho, .inl (cJ, 1, .inr (.inl (og)))) :: wX h0 h1 h2 h3 h4 h5 h6 h7 h8 h9 cI cJ d r lc bg w rm k pn fa e1 am dd rt b pd pt tp) [10, 0, 1, 2, 3, 4, 5, 6, 7, 8, 9] rfl
      have hD9 := hD.sub (ws' := (ho, .inl (cJ, 1, .inr (.inl (og)))) :: wX h0 h1 h2 h3 h4 h5 h6 h7 h8 h9 cI cJ d r lc bg w rm k pn fa e1 am dd rt b pd pt tp) [10, 0, 1, 2, 3, 4, 5, 6, 7, 8, 9] (by decide) rfl
      exact W.iret (v := nI 1) hx hb hr (fun t ht hW => ⟨⟨nI 1, _, rfl, Or.inr (Or.inl ⟨rfl, hc, rfl⟩), by rw [ht]; exact hP9, va_K.moved hW.alike hK, hD9⟩, hS.F ht⟩) hS.2.2 dL_pass_14
    · refine vx_catch (own := RL) (name := RIS) hown [⟨0, 9, 12, 13⟩] ⟨0, 9, 15, 15⟩ [] (by rw [htb]; rfl) (fun z h => by rw [List.mem_singleton] at h; subst h; exact Or.inr ⟨by decide, RIA, hts (.classLink RL 13 RIA) (by decide +kernel), hZ.2.1.2.2.2.1⟩) rfl (by decide) (hts (.classLink RL 15 RIS) (by decide +kernel)) (va_Nw.use (A := args) rfl hZ.2.1.2.1) hce hcv hcl ?_
      refine lv_astore_n (lv' := [(3, .ref q9), (0, .ref h0), (1, .int p0), (2, .ref ho)]) hx hb dL_pass_15 rfl hl (by decide) rfl (fun ls hl => ?_)
      refine lv_iconst (v := nI 2) hx hb dL_pass_16 (by decide +kernel) ?_
      have hP9 := hP.sub (ws' := (ho, .inl (cJ, 1, .inr (.inl (og)))) :: wX h0 h1 h2 h3 h4 h5 h6 h7 h8 h9 cI cJ d r lc bg w rm k pn fa e1 am dd rt b pd pt tp) [10, 0, 1, 2, 3, 4, 5, 6, 7, 8, 9] rfl
      have hD9 := hD.sub (ws' := (ho, .inl (cJ, 1, .inr (.inl (og)))) :: wX h0 h1 h2 h3 h4 h5 h6 h7 h8 h9 cI cJ d r lc bg w rm k pn fa e1 am dd rt b pd pt tp) [10, 0, 1, 2, 3, 4, 5, 6, 7, 8, 9] (by decide) rfl
      exact W.iret (v := nI 2) hx hb hr (fun t ht hW => ⟨⟨nI 2, _, rfl, Or.inr (Or.inr ⟨rfl, hc, rfl⟩), by rw [ht]; exact hP9, va_K.moved hW.alike hK, hD9⟩, hS.F ht⟩) hS.2.2 dL_pass_17
  · refine lv_i2l hx hb dL_pass_7 rfl ?_
    refine va_last hx hb hK hP hD hS 0 1 rfl rfl (vp_in_nI (by decide) (by decide)) dL_pass_8 (fun H locs hP hD hS => ?_)
    have e0 : (nI 0).toNatClampNeg = 0 := nI_clamp (by decide)
    rw [e0] at hP hD
    have hP : va_P D vwCl ((ho, .inl (cJ, 1, .inr (.inl (vp_updL og 0 r8.toInt64)))) :: w2) H := hP
    have hD : va_D A ((ho, .inl (cJ, 1, .inr (.inl (vp_updL og 0 r8.toInt64)))) :: w2) := hD
    refine lv_goto (tgt := 18) hx hb dL_pass_9 (by decide) ?_
    refine lv_iconst (v := nI 0) hx hb dL_pass_18 (by decide +kernel) ?_
    exact W.iret (v := nI 0) hx hb hr (fun t ht hW => ⟨⟨nI 0, _, rfl, Or.inl ⟨rfl, r8, w2, hw, rfl⟩, by rw [ht]; exact hP, va_K.moved hW.alike hK, hD⟩, hS.F ht⟩) hS.2.2 dL_pass_19
set_option maxHeartbeats 4000000 in
set_option maxRecDepth 100000 in
theorem c_L_end (l : Launch) (hfl : l.stackTraces = false) (D : va_G) (h0 h1 h2 h3 h4 h5 h6 h7 h8 h9 : Nat) (cI cJ : ClassId) (d r lc bg w rm k pn : Nat) (fa e1 am dd rt b pd pt tp : Nat → Nat) (ho : Nat) (og : Nat → Int64) (sz : Nat) (p0 : Int32) (z : Int) (a9 : Nat)  (hz : p0.toInt = z) (hpa : 0 ≤ z → p0 = nI a9 ∧ a9 < 2147483648) (hlc : lc ≤ 2) (he : ∀ j, j < lc → e1 j ≤ 15001) (hd : d ≤ 15000) : Met l yL_end wsL_end { frames := 7, cells := 1, slots := 6, locals := 113 } (nk_Px D (wX h0 h1 h2 h3 h4 h5 h6 h7 h8 h9 cI cJ d r lc bg w rm k pn fa e1 am dd rt b pd pt tp ++ [(ho, .inl (cJ, 1, .inr (.inl (og))))]) (tX cI cJ) sz [.ref h0, .int p0, .ref ho]) (va_Qi (fun r9 w1 => (r9 = nI 0 ∧ ∃ (r8 : Int32) (w2 : va_W), (fun r9 w1 => (0 ≤ z ∧ z < (lc : Int)) ∧ e1 a9 = 0 ∧ r9 = nI (alive (va_up e1 a9 (d + 1)) lc) ∧ w1 = wX h0 h1 h2 h3 h4 h5 h6 h7 h8 h9 cI cJ d r lc bg w rm k pn fa (va_up e1 a9 (d + 1)) am dd rt b pd pt tp) r8 w2 ∧ w1 = (ho, .inl (cJ, 1, .inr (.inl (vp_updL og 0 r8.toInt64)))) :: w2) ∨ (r9 = nI 1 ∧ (¬ (0 ≤ z ∧ z < (lc : Int))) ∧ w1 = (ho, .inl (cJ, 1, .inr (.inl (og)))) :: wX h0 h1 h2 h3 h4 h5 h6 h7 h8 h9 cI cJ d r lc bg w rm k pn fa e1 am dd rt b pd pt tp) ∨ (r9 = nI 2 ∧ ((0 ≤ z ∧ z < (lc : Int)) ∧ 0 < e1 a9) ∧ w1 = (ho, .inl (cJ, 1, .inr (.inl (og)))) :: wX h0 h1 h2 h3 h4 h5 h6 h7 h8 h9 cI cJ d r lc bg w rm k pn fa e1 am dd rt b pd pt tp)) (fun w1 t => nk_At D (tX cI cJ) (va_A (wX h0 h1 h2 h3 h4 h5 h6 h7 h8 h9 cI cJ d r lc bg w rm k pn fa e1 am dd rt b pd pt tp ++ [(ho, .inl (cJ, 1, .inr (.inl (og))))]) sz) w1 t) (va_A (wX h0 h1 h2 h3 h4 h5 h6 h7 h8 h9 cI cJ d r lc bg w rm k pn fa e1 am dd rt b pd pt tp ++ [(ho, .inl (cJ, 1, .inr (.inl (og))))]) sz)) 1 6 (va_A (wX h0 h1 h2 h3 h4 h5 h6 h7 h8 h9 cI cJ d r lc bg w rm k pn fa e1 am dd rt b pd pt tp ++ [(ho, .inl (cJ, 1, .inr (.inl (og))))]) sz) := by
  refine va_MetW (cc := cL_end) (maxL := 4) (ret := (some .int)) (hh := [(0, 9, 12, 33), (0, 9, 15, 15)]) (by decide) rfl ?_
  intro p e s m args below meth c s₁ B hml hv
  obtain ⟨hargs, hsz, hP, hK, hD0, hZ⟩ := hv
  have hx := B.exec
  have hb := B.bytes
  have hr := B.returns
  have hts := atoms_spec (ws := wsL_end) B.pre
  have hown : s.vm.findClass RL = some m.cls := findClass_of_methodNamed B.named
  have hlocks := B.notSynchronized
  have htb : c.exceptionTable.toList = tableOf [(0, 9, 12, 33), (0, 9, 15, 15)] := vx_table (x := yL_end) B (hts (.codeWith yL_end cL_end 4 (some .int) [(0, 9, 12, 33), (0, 9, 15, 15)]) (by unfold wsL_end; exact List.mem_cons_self))
  subst hsz
  have hD := hD0.self (sz := s.heap.size)
  have hZn : ∀ q, va_A (wX h0 h1 h2 h3 h4 h5 h6 h7 h8 h9 cI cJ d r lc bg w rm k pn fa e1 am dd rt b pd pt tp) s.heap.size q → va_A (wX h0 h1 h2 h3 h4 h5 h6 h7 h8 h9 cI cJ d r lc bg w rm k pn fa e1 am dd rt b pd pt tp ++ [(ho, .inl (cJ, 1, .inr (.inl (og))))]) s.heap.size q := fun q h => h.elim (fun ⟨k, e, hk⟩ => by
    have hk9 : k < 10 := by
      have := (List.getElem?_eq_some_iff.mp hk).1
      exact this
    exact Or.inl ⟨k, e, by rw [List.getElem?_append_left (by exact hk9)]; exact hk⟩) (fun h => Or.inr h)
  generalize hAe : va_A (wX h0 h1 h2 h3 h4 h5 h6 h7 h8 h9 cI cJ d r lc bg w rm k pn fa e1 am dd rt b pd pt tp ++ [(ho, .inl (cJ, 1, .inr (.inl (og))))]) s.heap.size = A at hD ⊢
  have hA : ∀ q : Nat, s.heap.size ≤ q → A q := fun q h => by rw [← hAe]; exact Or.inr h
  have hS : va_S A s.heap s.heap [] := va_S.rf
  have hl := lv_entry ([.ref h0, .int p0, .ref ho]) (n := 4) (Nat.le_of_ble_eq_true rfl)
  have hEe : entryFrame m args 4 = entryFrame m ([.ref h0, .int p0, .ref ho] : List Value).toArray 4 := by rw [hargs]
  rw [hEe, lg_entry_eq]
  generalize (lg_sl ([.ref h0, .int p0, .ref ho]) ++ List.replicate (4 - (lg_sl ([.ref h0, .int p0, .ref ho])).length) Slot.unset).toArray = ls at hl ⊢
  have hl : lv_has ls 4 [(0, .ref h0), (1, .int p0), (2, .ref ho)] := hl
  refine lv_aload_n hx hb dL_end_0 rfl (lv_at hl 2 rfl) ?_
  refine lv_iconst (v := nI 0) hx hb dL_end_1 (by decide +kernel) ?_
  refine lv_aload_n hx hb dL_end_2 rfl (lv_at hl 0 rfl) ?_
  refine lv_iload_n hx hb dL_end_3 rfl (lv_at hl 1 rfl) ?_
  have hPc := hP.sub (ws' := wX h0 h1 h2 h3 h4 h5 h6 h7 h8 h9 cI cJ d r lc bg w rm k pn fa e1 am dd rt b pd pt tp) [0, 1, 2, 3, 4, 5, 6, 7, 8, 9] rfl
  have hDc := hD.sub (ws' := wX h0 h1 h2 h3 h4 h5 h6 h7 h8 h9 cI cJ d r lc bg w rm k pn fa e1 am dd rt b pd pt tp) [0, 1, 2, 3, 4, 5, 6, 7, 8, 9] (by decide) rfl
  refine nk_icallx (wr := [(ho, .inl (cJ, 1, .inr (.inl (og))))]) (vx_runV (As := [.int p0]) (rest := [.int (nI 0), .ref ho]) ⟨hx, hb, hml, hown, hts⟩ (c_X0_end l hfl D h0 h1 h2 h3 h4 h5 h6 h7 h8 h9 cI cJ d r lc bg w rm k pn fa e1 am dd rt b pd pt tp s.heap.size p0 z a9 hz hpa hlc he hd) (cwV 1 hts gL_end_X0_end rfl rfl rfl (by decide +kernel) ⟨Nat.le_of_ble_eq_true rfl, Nat.le_of_ble_eq_true rfl⟩) ⟨nk_Px.blind, va_recv hK hPc (ci := 0) (q0 := 0) rfl rfl, fun U hU hW => ⟨rfl, by rw [hU], by rw [hU]; exact hPc, va_K.moved hW.alike hK, hDc.weaken (fun _ _ _ _ => trivial), by rw [hU]; exact nk_Z.go hZ hW hZn⟩⟩ rfl rfl hl.1 rfl (lv_room (Nat.le_of_ble_eq_true rfl)) dL_end_4 ⟨Nat.le_of_ble_eq_true rfl, Nat.le_of_ble_eq_true rfl⟩) hP hD hS hA [0, 1, 2, 3, 4, 5, 6, 7, 8, 9] [10] rfl rfl rfl (by decide) (fun E9 ce q9 H locs hE hz hk9 hP hS hce hcv hcl => ?_) (fun r8 w2 H locs hw hP hD hS hk9 => ?_)
  · rcases hE with ⟨rfl, hc⟩ | ⟨rfl, hc⟩
    · refine vx_catch (own := RL) (name := RIO) hown [] ⟨0, 9, 12, 33⟩ [⟨0, 9, 15, 15⟩] (by rw [htb]; rfl) (fun z h => nomatch h) rfl (by decide) (hts (.classLink RL 33 RIO) (by decide +kernel)) (va_Nw.use (A := args) rfl hZ.2.1.2.2.1) hce hcv hcl ?_
      refine lv_astore_n (lv' := [(3, .ref q9), (0, .ref h0), (1, .int p0), (2, .ref ho)]) hx hb dL_end_12 rfl hl (by decide) rfl (fun ls hl => ?_)
      refine lv_iconst (v := nI 1) hx hb dL_end_13 (by decide +kernel) ?_
      have hP9 := hP.sub (ws' := (ho, .inl (cJ, 1, .inr (.inl (og)))) :: wX h0 h1 h2 h3 h4 h5 h6 h7 h8 h9 cI cJ d r lc bg w rm k pn fa e1 am dd rt b pd pt tp) [10, 0, 1, 2, 3, 4, 5, 6, 7, 8, 9] rfl
      have hD9 := hD.sub (ws' := (ho, .inl (cJ, 1, .inr (.inl (og)))) :: wX h0 h1 h2 h3 h4 h5 h6 h7 h8 h9 cI cJ d r lc bg w rm k pn fa e1 am dd rt b pd pt tp) [10, 0, 1, 2, 3, 4, 5, 6, 7, 8, 9] (by decide) rfl
      exact W.iret (v := nI 1) hx hb hr (fun t ht hW => ⟨⟨nI 1, _, rfl, Or.inr (Or.inl ⟨rfl, hc, rfl⟩), by rw [ht]; exact hP9, va_K.moved hW.alike hK, hD9⟩, hS.F ht⟩) hS.2.2 dL_end_14
    · refine vx_catch (own := RL) (name := RIS) hown [⟨0, 9, 12, 33⟩] ⟨0, 9, 15, 15⟩ [] (by rw [htb]; rfl) (fun z h => by rw [List.mem_singleton] at h; subst h; exact Or.inr ⟨by decide, RIO, hts (.classLink RL 33 RIO) (by decide +kernel), hZ.2.1.2.2.2.2⟩) rfl (by decide) (hts (.classLink RL 15 RIS) (by decide +kernel)) (va_Nw.use (A := args) rfl hZ.2.1.2.1) hce hcv hcl ?_
      refine lv_astore_n (lv' := [(3, .ref q9), (0, .ref h0), (1, .int p0), (2, .ref ho)]) hx hb dL_end_15 rfl hl (by decide) rfl (fun ls hl => ?_)
      refine lv_iconst (v := nI 2) hx hb dL_end_16 (by decide +kernel) ?_
      have hP9 := hP.sub (ws' := (ho, .inl (cJ, 1, .inr (.inl (og)))) :: wX h0 h1 h2 h3 h4 h5 h6 h7 h8 h9 cI cJ d r lc bg w rm k pn fa e1 am dd rt b pd pt tp) [10, 0, 1, 2, 3, 4, 5, 6, 7, 8, 9] rfl
      have hD9 := hD.sub (ws' := (ho, .inl (cJ, 1, .inr (.inl (og)))) :: wX h0 h1 h2 h3 h4 h5 h6 h7 h8 h9 cI cJ d r lc bg w rm k pn fa e1 am dd rt b pd pt tp) [10, 0, 1, 2, 3, 4, 5, 6, 7, 8, 9] (by decide) rfl
      exact W.iret (v := nI 2) hx hb hr (fun t ht hW => ⟨⟨nI 2, _, rfl, Or.inr (Or.inr ⟨rfl, hc, rfl⟩), by rw [ht]; exact hP9, va_K.moved hW.alike hK, hD9⟩, hS.F ht⟩) hS.2.2 dL_end_17
  · refine lv_i2l hx hb dL_end_7 rfl ?_
    refine va_last hx hb hK hP hD hS 0 1 rfl rfl (vp_in_nI (by decide) (by decide)) dL_end_8 (fun H locs hP hD hS => ?_)
    have e0 : (nI 0).toNatClampNeg = 0 := nI_clamp (by decide)
    rw [e0] at hP hD
    have hP : va_P D vwCl ((ho, .inl (cJ, 1, .inr (.inl (vp_updL og 0 r8.toInt64)))) :: w2) H := hP
    have hD : va_D A ((ho, .inl (cJ, 1, .inr (.inl (vp_updL og 0 r8.toInt64)))) :: w2) := hD
    refine lv_goto (tgt := 18) hx hb dL_end_9 (by decide) ?_
    refine lv_iconst (v := nI 0) hx hb dL_end_18 (by decide +kernel) ?_
    exact W.iret (v := nI 0) hx hb hr (fun t ht hW => ⟨⟨nI 0, _, rfl, Or.inl ⟨rfl, r8, w2, hw, rfl⟩, by rw [ht]; exact hP, va_K.moved hW.alike hK, hD⟩, hS.F ht⟩) hS.2.2 dL_end_19
set_option maxHeartbeats 4000000 in
set_option maxRecDepth 100000 in
theorem c_L_value (l : Launch) (hfl : l.stackTraces = false) (D : va_G) (h0 h1 h2 h3 h4 h5 h6 h7 h8 h9 : Nat) (cI cJ : ClassId) (d r lc bg w rm k pn : Nat) (fa e1 am dd rt b pd pt tp : Nat → Nat) (ho : Nat) (og : Nat → Int64) (sz : Nat) (p0 : Int32) (z : Int) (a9 : Nat)  (hz : p0.toInt = z) (hpa : 0 ≤ z → p0 = nI a9 ∧ a9 < 2147483648) (hlc : lc ≤ 2) : Met l yL_value wsL_value { frames := 8, cells := 1, slots := 6, locals := 136 } (nk_Px D (wX h0 h1 h2 h3 h4 h5 h6 h7 h8 h9 cI cJ d r lc bg w rm k pn fa e1 am dd rt b pd pt tp ++ [(ho, .inl (cJ, 1, .inr (.inl (og))))]) (tX cI cJ) sz [.ref h0, .int p0, .ref ho]) (va_Qi (fun r9 w1 => (r9 = nI 0 ∧ ∃ (r8 : Int32) (w2 : va_W), (fun r9 w1 => (0 ≤ z ∧ z ≤ 10000000) ∧ 0 < lc ∧ r9 = nI w ∧ w1 = wX h0 h1 h2 h3 h4 h5 h6 h7 h8 h9 cI cJ d r lc bg a9 rm k pn fa e1 am dd rt b pd pt tp) r8 w2 ∧ w1 = (ho, .inl (cJ, 1, .inr (.inl (vp_updL og 0 r8.toInt64)))) :: w2) ∨ (r9 = nI 1 ∧ (¬ (0 ≤ z ∧ z ≤ 10000000)) ∧ w1 = (ho, .inl (cJ, 1, .inr (.inl (og)))) :: wX h0 h1 h2 h3 h4 h5 h6 h7 h8 h9 cI cJ d r lc bg w rm k pn fa e1 am dd rt b pd pt tp) ∨ (r9 = nI 2 ∧ ((0 ≤ z ∧ z ≤ 10000000) ∧ ¬ 0 < lc) ∧ w1 = (ho, .inl (cJ, 1, .inr (.inl (og)))) :: wX h0 h1 h2 h3 h4 h5 h6 h7 h8 h9 cI cJ d r lc bg w rm k pn fa e1 am dd rt b pd pt tp)) (fun w1 t => nk_At D (tX cI cJ) (va_A (wX h0 h1 h2 h3 h4 h5 h6 h7 h8 h9 cI cJ d r lc bg w rm k pn fa e1 am dd rt b pd pt tp ++ [(ho, .inl (cJ, 1, .inr (.inl (og))))]) sz) w1 t) (va_A (wX h0 h1 h2 h3 h4 h5 h6 h7 h8 h9 cI cJ d r lc bg w rm k pn fa e1 am dd rt b pd pt tp ++ [(ho, .inl (cJ, 1, .inr (.inl (og))))]) sz)) 1 6 (va_A (wX h0 h1 h2 h3 h4 h5 h6 h7 h8 h9 cI cJ d r lc bg w rm k pn fa e1 am dd rt b pd pt tp ++ [(ho, .inl (cJ, 1, .inr (.inl (og))))]) sz) := by
  refine va_MetW (cc := cL_value) (maxL := 4) (ret := (some .int)) (hh := [(0, 9, 12, 13), (0, 9, 15, 15)]) (by decide) rfl ?_
  intro p e s m args below meth c s₁ B hml hv
  obtain ⟨hargs, hsz, hP, hK, hD0, hZ⟩ := hv
  have hx := B.exec
  have hb := B.bytes
  have hr := B.returns
  have hts := atoms_spec (ws := wsL_value) B.pre
  have hown : s.vm.findClass RL = some m.cls := findClass_of_methodNamed B.named
  have hlocks := B.notSynchronized
  have htb : c.exceptionTable.toList = tableOf [(0, 9, 12, 13), (0, 9, 15, 15)] := vx_table (x := yL_value) B (hts (.codeWith yL_value cL_value 4 (some .int) [(0, 9, 12, 13), (0, 9, 15, 15)]) (by unfold wsL_value; exact List.mem_cons_self))
  subst hsz
  have hD := hD0.self (sz := s.heap.size)
  have hZn : ∀ q, va_A (wX h0 h1 h2 h3 h4 h5 h6 h7 h8 h9 cI cJ d r lc bg w rm k pn fa e1 am dd rt b pd pt tp) s.heap.size q → va_A (wX h0 h1 h2 h3 h4 h5 h6 h7 h8 h9 cI cJ d r lc bg w rm k pn fa e1 am dd rt b pd pt tp ++ [(ho, .inl (cJ, 1, .inr (.inl (og))))]) s.heap.size q := fun q h => h.elim (fun ⟨k, e, hk⟩ => by
    have hk9 : k < 10 := by
      have := (List.getElem?_eq_some_iff.mp hk).1
      exact this
    exact Or.inl ⟨k, e, by rw [List.getElem?_append_left (by exact hk9)]; exact hk⟩) (fun h => Or.inr h)
  generalize hAe : va_A (wX h0 h1 h2 h3 h4 h5 h6 h7 h8 h9 cI cJ d r lc bg w rm k pn fa e1 am dd rt b pd pt tp ++ [(ho, .inl (cJ, 1, .inr (.inl (og))))]) s.heap.size = A at hD ⊢
  have hA : ∀ q : Nat, s.heap.size ≤ q → A q := fun q h => by rw [← hAe]; exact Or.inr h
  have hS : va_S A s.heap s.heap [] := va_S.rf
  have hl := lv_entry ([.ref h0, .int p0, .ref ho]) (n := 4) (Nat.le_of_ble_eq_true rfl)
  have hEe : entryFrame m args 4 = entryFrame m ([.ref h0, .int p0, .ref ho] : List Value).toArray 4 := by rw [hargs]
  rw [hEe, lg_entry_eq]
  generalize (lg_sl ([.ref h0, .int p0, .ref ho]) ++ List.replicate (4 - (lg_sl ([.ref h0, .int p0, .ref ho])).length) Slot.unset).toArray = ls at hl ⊢
  have hl : lv_has ls 4 [(0, .ref h0), (1, .int p0), (2, .ref ho)] := hl
  refine lv_aload_n hx hb dL_value_0 rfl (lv_at hl 2 rfl) ?_
  refine lv_iconst (v := nI 0) hx hb dL_value_1 (by decide +kernel) ?_
  refine lv_aload_n hx hb dL_value_2 rfl (lv_at hl 0 rfl) ?_
  refine lv_iload_n hx hb dL_value_3 rfl (lv_at hl 1 rfl) ?_
  have hPc := hP.sub (ws' := wX h0 h1 h2 h3 h4 h5 h6 h7 h8 h9 cI cJ d r lc bg w rm k pn fa e1 am dd rt b pd pt tp) [0, 1, 2, 3, 4, 5, 6, 7, 8, 9] rfl
  have hDc := hD.sub (ws' := wX h0 h1 h2 h3 h4 h5 h6 h7 h8 h9 cI cJ d r lc bg w rm k pn fa e1 am dd rt b pd pt tp) [0, 1, 2, 3, 4, 5, 6, 7, 8, 9] (by decide) rfl
  refine nk_icallx (wr := [(ho, .inl (cJ, 1, .inr (.inl (og))))]) (vx_runV (As := [.int p0]) (rest := [.int (nI 0), .ref ho]) ⟨hx, hb, hml, hown, hts⟩ (c_X0_value l hfl D h0 h1 h2 h3 h4 h5 h6 h7 h8 h9 cI cJ d r lc bg w rm k pn fa e1 am dd rt b pd pt tp s.heap.size p0 z a9 hz hpa hlc) (cwV 1 hts gL_value_X0_value rfl rfl rfl (by decide +kernel) ⟨Nat.le_of_ble_eq_true rfl, Nat.le_of_ble_eq_true rfl⟩) ⟨nk_Px.blind, va_recv hK hPc (ci := 0) (q0 := 0) rfl rfl, fun U hU hW => ⟨rfl, by rw [hU], by rw [hU]; exact hPc, va_K.moved hW.alike hK, hDc.weaken (fun _ _ _ _ => trivial), by rw [hU]; exact nk_Z.go hZ hW hZn⟩⟩ rfl rfl hl.1 rfl (lv_room (Nat.le_of_ble_eq_true rfl)) dL_value_4 ⟨Nat.le_of_ble_eq_true rfl, Nat.le_of_ble_eq_true rfl⟩) hP hD hS hA [0, 1, 2, 3, 4, 5, 6, 7, 8, 9] [10] rfl rfl rfl (by decide) (fun E9 ce q9 H locs hE hz hk9 hP hS hce hcv hcl => ?_) (fun r8 w2 H locs hw hP hD hS hk9 => ?_)
  · rcases hE with ⟨rfl, hc⟩ | ⟨rfl, hc⟩
    · refine vx_catch (own := RL) (name := RIA) hown [] ⟨0, 9, 12, 13⟩ [⟨0, 9, 15, 15⟩] (by rw [htb]; rfl) (fun z h => nomatch h) rfl (by decide) (hts (.classLink RL 13 RIA) (by decide +kernel)) (va_Nw.use (A := args) rfl hZ.2.1.1) hce hcv hcl ?_
      refine lv_astore_n (lv' := [(3, .ref q9), (0, .ref h0), (1, .int p0), (2, .ref ho)]) hx hb dL_value_12 rfl hl (by decide) rfl (fun ls hl => ?_)
      refine lv_iconst (v := nI 1) hx hb dL_value_13 (by decide +kernel) ?_
      have hP9 := hP.sub (ws' := (ho, .inl (cJ, 1, .inr (.inl (og)))) :: wX h0 h1 h2 h3 h4 h5 h6 h7 h8 h9 cI cJ d r lc bg w rm k pn fa e1 am dd rt b pd pt tp) [10, 0, 1, 2, 3, 4, 5, 6, 7, 8, 9] rfl
      have hD9 := hD.sub (ws' := (ho, .inl (cJ, 1, .inr (.inl (og)))) :: wX h0 h1 h2 h3 h4 h5 h6 h7 h8 h9 cI cJ d r lc bg w rm k pn fa e1 am dd rt b pd pt tp) [10, 0, 1, 2, 3, 4, 5, 6, 7, 8, 9] (by decide) rfl
      exact W.iret (v := nI 1) hx hb hr (fun t ht hW => ⟨⟨nI 1, _, rfl, Or.inr (Or.inl ⟨rfl, hc, rfl⟩), by rw [ht]; exact hP9, va_K.moved hW.alike hK, hD9⟩, hS.F ht⟩) hS.2.2 dL_value_14
    · refine vx_catch (own := RL) (name := RIS) hown [⟨0, 9, 12, 13⟩] ⟨0, 9, 15, 15⟩ [] (by rw [htb]; rfl) (fun z h => by rw [List.mem_singleton] at h; subst h; exact Or.inr ⟨by decide, RIA, hts (.classLink RL 13 RIA) (by decide +kernel), hZ.2.1.2.2.2.1⟩) rfl (by decide) (hts (.classLink RL 15 RIS) (by decide +kernel)) (va_Nw.use (A := args) rfl hZ.2.1.2.1) hce hcv hcl ?_
      refine lv_astore_n (lv' := [(3, .ref q9), (0, .ref h0), (1, .int p0), (2, .ref ho)]) hx hb dL_value_15 rfl hl (by decide) rfl (fun ls hl => ?_)
      refine lv_iconst (v := nI 2) hx hb dL_value_16 (by decide +kernel) ?_
      have hP9 := hP.sub (ws' := (ho, .inl (cJ, 1, .inr (.inl (og)))) :: wX h0 h1 h2 h3 h4 h5 h6 h7 h8 h9 cI cJ d r lc bg w rm k pn fa e1 am dd rt b pd pt tp) [10, 0, 1, 2, 3, 4, 5, 6, 7, 8, 9] rfl
      have hD9 := hD.sub (ws' := (ho, .inl (cJ, 1, .inr (.inl (og)))) :: wX h0 h1 h2 h3 h4 h5 h6 h7 h8 h9 cI cJ d r lc bg w rm k pn fa e1 am dd rt b pd pt tp) [10, 0, 1, 2, 3, 4, 5, 6, 7, 8, 9] (by decide) rfl
      exact W.iret (v := nI 2) hx hb hr (fun t ht hW => ⟨⟨nI 2, _, rfl, Or.inr (Or.inr ⟨rfl, hc, rfl⟩), by rw [ht]; exact hP9, va_K.moved hW.alike hK, hD9⟩, hS.F ht⟩) hS.2.2 dL_value_17
  · refine lv_i2l hx hb dL_value_7 rfl ?_
    refine va_last hx hb hK hP hD hS 0 1 rfl rfl (vp_in_nI (by decide) (by decide)) dL_value_8 (fun H locs hP hD hS => ?_)
    have e0 : (nI 0).toNatClampNeg = 0 := nI_clamp (by decide)
    rw [e0] at hP hD
    have hP : va_P D vwCl ((ho, .inl (cJ, 1, .inr (.inl (vp_updL og 0 r8.toInt64)))) :: w2) H := hP
    have hD : va_D A ((ho, .inl (cJ, 1, .inr (.inl (vp_updL og 0 r8.toInt64)))) :: w2) := hD
    refine lv_goto (tgt := 18) hx hb dL_value_9 (by decide) ?_
    refine lv_iconst (v := nI 0) hx hb dL_value_18 (by decide +kernel) ?_
    exact W.iret (v := nI 0) hx hb hr (fun t ht hW => ⟨⟨nI 0, _, rfl, Or.inl ⟨rfl, r8, w2, hw, rfl⟩, by rw [ht]; exact hP, va_K.moved hW.alike hK, hD⟩, hS.F ht⟩) hS.2.2 dL_value_19
set_option maxHeartbeats 4000000 in
set_option maxRecDepth 100000 in
theorem c_L_move (l : Launch) (hfl : l.stackTraces = false) (D : va_G) (h0 h1 h2 h3 h4 h5 h6 h7 h8 h9 : Nat) (cI cJ : ClassId) (d r lc bg w rm k pn : Nat) (fa e1 am dd rt b pd pt tp : Nat → Nat) (ho : Nat) (og : Nat → Int64) (sz : Nat) (p0 : Int32) (z : Int) (a9 : Nat)  (hz : p0.toInt = z) (hpa : 0 ≤ z → p0 = nI a9 ∧ a9 < 2147483648) (hlc : lc ≤ 2) (he : ∀ j, j < lc → e1 j ≤ 15001) (hfa : ∀ j, j < lc → 55 ≤ fa j ∧ fa j ≤ 95) (hd : d ≤ 15000) (hk : k ≤ 20) (hpn : pn ≤ 40) (hbs : sm b k < 1000000000000000000) (hb9 : ∀ j, j < k → b j < 4611686018427387904) : Met l yL_move wsL_move { frames := 8, cells := 1, slots := 6, locals := 138 } (nk_Px D (wX h0 h1 h2 h3 h4 h5 h6 h7 h8 h9 cI cJ d r lc bg w rm k pn fa e1 am dd rt b pd pt tp ++ [(ho, .inl (cJ, 1, .inr (.inl (og))))]) (tX cI cJ) sz [.ref h0, .int p0, .ref ho]) (va_Qi (fun r9 w1 => (r9 = nI 0 ∧ ∃ (r8 : Int64) (w2 : va_W), (fun r9 w1 => (0 ≤ z ∧ z ≤ 10000000) ∧ (0 < lc ∧ 0 < alive e1 lc) ∧ pn < 40 ∧ r9 = lN (ceilA (sm b k) - gL a9 (lstA fa e1 lc - 1 + d / 365)) ∧ ((ceilA (sm b k) ≤ gL a9 (lstA fa e1 lc - 1 + d / 365) ∧ w1 = wX h0 h1 h2 h3 h4 h5 h6 h7 h8 h9 cI cJ d r lc bg a9 (gL a9 (lstA fa e1 lc - 1 + d / 365) - ceilA (sm b k)) k pn fa e1 am dd rt b pd pt tp) ∨ (gL a9 (lstA fa e1 lc - 1 + d / 365) < ceilA (sm b k) ∧ w1 = wX h0 h1 h2 h3 h4 h5 h6 h7 h8 h9 cI cJ d r lc bg a9 (gL a9 (lstA fa e1 lc - 1 + d / 365) - ceilA (sm (tkB b ((ceilA (sm b k) - gL a9 (lstA fa e1 lc - 1 + d / 365)) * 10000) k) k)) k (pn + 1) fa e1 am dd rt (tkB b ((ceilA (sm b k) - gL a9 (lstA fa e1 lc - 1 + d / 365)) * 10000) k) (va_up pd pn d) (va_up pt pn 0) (tkT tp b ((ceilA (sm b k) - gL a9 (lstA fa e1 lc - 1 + d / 365)) * 10000) pn k)))) r8 w2 ∧ w1 = (ho, .inl (cJ, 1, .inr (.inl (vp_updL og 0 r8)))) :: w2) ∨ (r9 = nI 1 ∧ (¬ (0 ≤ z ∧ z ≤ 10000000)) ∧ w1 = (ho, .inl (cJ, 1, .inr (.inl (og)))) :: wX h0 h1 h2 h3 h4 h5 h6 h7 h8 h9 cI cJ d r lc bg w rm k pn fa e1 am dd rt b pd pt tp) ∨ (r9 = nI 2 ∧ ((0 ≤ z ∧ z ≤ 10000000) ∧ ¬ ((0 < lc ∧ 0 < alive e1 lc) ∧ pn < 40)) ∧ w1 = (ho, .inl (cJ, 1, .inr (.inl (og)))) :: wX h0 h1 h2 h3 h4 h5 h6 h7 h8 h9 cI cJ d r lc bg w rm k pn fa e1 am dd rt b pd pt tp)) (fun w1 t => nk_At D (tX cI cJ) (va_A (wX h0 h1 h2 h3 h4 h5 h6 h7 h8 h9 cI cJ d r lc bg w rm k pn fa e1 am dd rt b pd pt tp ++ [(ho, .inl (cJ, 1, .inr (.inl (og))))]) sz) w1 t) (va_A (wX h0 h1 h2 h3 h4 h5 h6 h7 h8 h9 cI cJ d r lc bg w rm k pn fa e1 am dd rt b pd pt tp ++ [(ho, .inl (cJ, 1, .inr (.inl (og))))]) sz)) 1 6 (va_A (wX h0 h1 h2 h3 h4 h5 h6 h7 h8 h9 cI cJ d r lc bg w rm k pn fa e1 am dd rt b pd pt tp ++ [(ho, .inl (cJ, 1, .inr (.inl (og))))]) sz) := by
  refine va_MetW (cc := cL_move) (maxL := 4) (ret := (some .int)) (hh := [(0, 8, 11, 13), (0, 8, 14, 15)]) (by decide) rfl ?_
  intro p e s m args below meth c s₁ B hml hv
  obtain ⟨hargs, hsz, hP, hK, hD0, hZ⟩ := hv
  have hx := B.exec
  have hb := B.bytes
  have hr := B.returns
  have hts := atoms_spec (ws := wsL_move) B.pre
  have hown : s.vm.findClass RL = some m.cls := findClass_of_methodNamed B.named
  have hlocks := B.notSynchronized
  have htb : c.exceptionTable.toList = tableOf [(0, 8, 11, 13), (0, 8, 14, 15)] := vx_table (x := yL_move) B (hts (.codeWith yL_move cL_move 4 (some .int) [(0, 8, 11, 13), (0, 8, 14, 15)]) (by unfold wsL_move; exact List.mem_cons_self))
  subst hsz
  have hD := hD0.self (sz := s.heap.size)
  have hZn : ∀ q, va_A (wX h0 h1 h2 h3 h4 h5 h6 h7 h8 h9 cI cJ d r lc bg w rm k pn fa e1 am dd rt b pd pt tp) s.heap.size q → va_A (wX h0 h1 h2 h3 h4 h5 h6 h7 h8 h9 cI cJ d r lc bg w rm k pn fa e1 am dd rt b pd pt tp ++ [(ho, .inl (cJ, 1, .inr (.inl (og))))]) s.heap.size q := fun q h => h.elim (fun ⟨k, e, hk⟩ => by
    have hk9 : k < 10 := by
      have := (List.getElem?_eq_some_iff.mp hk).1
      exact this
    exact Or.inl ⟨k, e, by rw [List.getElem?_append_left (by exact hk9)]; exact hk⟩) (fun h => Or.inr h)
  generalize hAe : va_A (wX h0 h1 h2 h3 h4 h5 h6 h7 h8 h9 cI cJ d r lc bg w rm k pn fa e1 am dd rt b pd pt tp ++ [(ho, .inl (cJ, 1, .inr (.inl (og))))]) s.heap.size = A at hD ⊢
  have hA : ∀ q : Nat, s.heap.size ≤ q → A q := fun q h => by rw [← hAe]; exact Or.inr h
  have hS : va_S A s.heap s.heap [] := va_S.rf
  have hl := lv_entry ([.ref h0, .int p0, .ref ho]) (n := 4) (Nat.le_of_ble_eq_true rfl)
  have hEe : entryFrame m args 4 = entryFrame m ([.ref h0, .int p0, .ref ho] : List Value).toArray 4 := by rw [hargs]
  rw [hEe, lg_entry_eq]
  generalize (lg_sl ([.ref h0, .int p0, .ref ho]) ++ List.replicate (4 - (lg_sl ([.ref h0, .int p0, .ref ho])).length) Slot.unset).toArray = ls at hl ⊢
  have hl : lv_has ls 4 [(0, .ref h0), (1, .int p0), (2, .ref ho)] := hl
  refine lv_aload_n hx hb dL_move_0 rfl (lv_at hl 2 rfl) ?_
  refine lv_iconst (v := nI 0) hx hb dL_move_1 (by decide +kernel) ?_
  refine lv_aload_n hx hb dL_move_2 rfl (lv_at hl 0 rfl) ?_
  refine lv_iload_n hx hb dL_move_3 rfl (lv_at hl 1 rfl) ?_
  have hPc := hP.sub (ws' := wX h0 h1 h2 h3 h4 h5 h6 h7 h8 h9 cI cJ d r lc bg w rm k pn fa e1 am dd rt b pd pt tp) [0, 1, 2, 3, 4, 5, 6, 7, 8, 9] rfl
  have hDc := hD.sub (ws' := wX h0 h1 h2 h3 h4 h5 h6 h7 h8 h9 cI cJ d r lc bg w rm k pn fa e1 am dd rt b pd pt tp) [0, 1, 2, 3, 4, 5, 6, 7, 8, 9] (by decide) rfl
  refine nk_lcallx (wr := [(ho, .inl (cJ, 1, .inr (.inl (og))))]) (vx_runV (As := [.int p0]) (rest := [.int (nI 0), .ref ho]) ⟨hx, hb, hml, hown, hts⟩ (c_X0_move l hfl D h0 h1 h2 h3 h4 h5 h6 h7 h8 h9 cI cJ d r lc bg w rm k pn fa e1 am dd rt b pd pt tp s.heap.size p0 z a9 hz hpa hlc he hfa hd hk hpn hbs hb9) (cwV 1 hts gL_move_X0_move rfl rfl rfl (by decide +kernel) ⟨Nat.le_of_ble_eq_true rfl, Nat.le_of_ble_eq_true rfl⟩) ⟨nk_Px.blind, va_recv hK hPc (ci := 0) (q0 := 0) rfl rfl, fun U hU hW => ⟨rfl, by rw [hU], by rw [hU]; exact hPc, va_K.moved hW.alike hK, hDc.weaken (fun _ _ _ _ => trivial), by rw [hU]; exact nk_Z.go hZ hW hZn⟩⟩ rfl rfl hl.1 rfl (lv_room (Nat.le_of_ble_eq_true rfl)) dL_move_4 ⟨Nat.le_of_ble_eq_true rfl, Nat.le_of_ble_eq_true rfl⟩) hP hD hS hA [0, 1, 2, 3, 4, 5, 6, 7, 8, 9] [10] rfl rfl rfl (by decide) (fun E9 ce q9 H locs hE hz hk9 hP hS hce hcv hcl => ?_) (fun r8 w2 H locs hw hP hD hS hk9 => ?_)
  · rcases hE with ⟨rfl, hc⟩ | ⟨rfl, hc⟩
    · refine vx_catch (own := RL) (name := RIA) hown [] ⟨0, 8, 11, 13⟩ [⟨0, 8, 14, 15⟩] (by rw [htb]; rfl) (fun z h => nomatch h) rfl (by decide) (hts (.classLink RL 13 RIA) (by decide +kernel)) (va_Nw.use (A := args) rfl hZ.2.1.1) hce hcv hcl ?_
      refine lv_astore_n (lv' := [(3, .ref q9), (0, .ref h0), (1, .int p0), (2, .ref ho)]) hx hb dL_move_11 rfl hl (by decide) rfl (fun ls hl => ?_)
      refine lv_iconst (v := nI 1) hx hb dL_move_12 (by decide +kernel) ?_
      have hP9 := hP.sub (ws' := (ho, .inl (cJ, 1, .inr (.inl (og)))) :: wX h0 h1 h2 h3 h4 h5 h6 h7 h8 h9 cI cJ d r lc bg w rm k pn fa e1 am dd rt b pd pt tp) [10, 0, 1, 2, 3, 4, 5, 6, 7, 8, 9] rfl
      have hD9 := hD.sub (ws' := (ho, .inl (cJ, 1, .inr (.inl (og)))) :: wX h0 h1 h2 h3 h4 h5 h6 h7 h8 h9 cI cJ d r lc bg w rm k pn fa e1 am dd rt b pd pt tp) [10, 0, 1, 2, 3, 4, 5, 6, 7, 8, 9] (by decide) rfl
      exact W.iret (v := nI 1) hx hb hr (fun t ht hW => ⟨⟨nI 1, _, rfl, Or.inr (Or.inl ⟨rfl, hc, rfl⟩), by rw [ht]; exact hP9, va_K.moved hW.alike hK, hD9⟩, hS.F ht⟩) hS.2.2 dL_move_13
    · refine vx_catch (own := RL) (name := RIS) hown [⟨0, 8, 11, 13⟩] ⟨0, 8, 14, 15⟩ [] (by rw [htb]; rfl) (fun z h => by rw [List.mem_singleton] at h; subst h; exact Or.inr ⟨by decide, RIA, hts (.classLink RL 13 RIA) (by decide +kernel), hZ.2.1.2.2.2.1⟩) rfl (by decide) (hts (.classLink RL 15 RIS) (by decide +kernel)) (va_Nw.use (A := args) rfl hZ.2.1.2.1) hce hcv hcl ?_
      refine lv_astore_n (lv' := [(3, .ref q9), (0, .ref h0), (1, .int p0), (2, .ref ho)]) hx hb dL_move_14 rfl hl (by decide) rfl (fun ls hl => ?_)
      refine lv_iconst (v := nI 2) hx hb dL_move_15 (by decide +kernel) ?_
      have hP9 := hP.sub (ws' := (ho, .inl (cJ, 1, .inr (.inl (og)))) :: wX h0 h1 h2 h3 h4 h5 h6 h7 h8 h9 cI cJ d r lc bg w rm k pn fa e1 am dd rt b pd pt tp) [10, 0, 1, 2, 3, 4, 5, 6, 7, 8, 9] rfl
      have hD9 := hD.sub (ws' := (ho, .inl (cJ, 1, .inr (.inl (og)))) :: wX h0 h1 h2 h3 h4 h5 h6 h7 h8 h9 cI cJ d r lc bg w rm k pn fa e1 am dd rt b pd pt tp) [10, 0, 1, 2, 3, 4, 5, 6, 7, 8, 9] (by decide) rfl
      exact W.iret (v := nI 2) hx hb hr (fun t ht hW => ⟨⟨nI 2, _, rfl, Or.inr (Or.inr ⟨rfl, hc, rfl⟩), by rw [ht]; exact hP9, va_K.moved hW.alike hK, hD9⟩, hS.F ht⟩) hS.2.2 dL_move_16
  · refine va_last hx hb hK hP hD hS 0 1 rfl rfl (vp_in_nI (by decide) (by decide)) dL_move_7 (fun H locs hP hD hS => ?_)
    have e0 : (nI 0).toNatClampNeg = 0 := nI_clamp (by decide)
    rw [e0] at hP hD
    have hP : va_P D vwCl ((ho, .inl (cJ, 1, .inr (.inl (vp_updL og 0 r8)))) :: w2) H := hP
    have hD : va_D A ((ho, .inl (cJ, 1, .inr (.inl (vp_updL og 0 r8)))) :: w2) := hD
    refine lv_goto (tgt := 17) hx hb dL_move_8 (by decide) ?_
    refine lv_iconst (v := nI 0) hx hb dL_move_17 (by decide +kernel) ?_
    exact W.iret (v := nI 0) hx hb hr (fun t ht hW => ⟨⟨nI 0, _, rfl, Or.inl ⟨rfl, r8, w2, hw, rfl⟩, by rw [ht]; exact hP, va_K.moved hW.alike hK, hD⟩, hS.F ht⟩) hS.2.2 dL_move_18
set_option maxHeartbeats 4000000 in
set_option maxRecDepth 100000 in
theorem c_L_balance (l : Launch) (hfl : l.stackTraces = false) (D : va_G) (h0 h1 h2 h3 h4 h5 h6 h7 h8 h9 : Nat) (cI cJ : ClassId) (d r lc bg w rm k pn : Nat) (fa e1 am dd rt b pd pt tp : Nat → Nat) (ho : Nat) (og : Nat → Int64) (sz : Nat) (p0 : Int32) (z : Int) (a9 : Nat)  (hz : p0.toInt = z) (hpa : 0 ≤ z → p0 = nI a9 ∧ a9 < 2147483648) (hk : k ≤ 20) (hb9 : ∀ j, j < k → b j < 4611686018427387904) : Met l yL_balance wsL_balance { frames := 7, cells := 1, slots := 6, locals := 113 } (nk_Px D (wX h0 h1 h2 h3 h4 h5 h6 h7 h8 h9 cI cJ d r lc bg w rm k pn fa e1 am dd rt b pd pt tp ++ [(ho, .inl (cJ, 1, .inr (.inl (og))))]) (tX cI cJ) sz [.ref h0, .int p0, .ref ho]) (va_Qi (fun r9 w1 => (r9 = nI 0 ∧ (0 ≤ z ∧ z < (k : Int)) ∧ w1 = (ho, .inl (cJ, 1, .inr (.inl (vp_updL og 0 (lN (ceilA (b a9))))))) :: wX h0 h1 h2 h3 h4 h5 h6 h7 h8 h9 cI cJ d r lc bg w rm k pn fa e1 am dd rt b pd pt tp) ∨ (r9 = nI 1 ∧ (¬ (0 ≤ z ∧ z < (k : Int))) ∧ w1 = (ho, .inl (cJ, 1, .inr (.inl (og)))) :: wX h0 h1 h2 h3 h4 h5 h6 h7 h8 h9 cI cJ d r lc bg w rm k pn fa e1 am dd rt b pd pt tp)) (fun w1 t => nk_At D (tX cI cJ) (va_A (wX h0 h1 h2 h3 h4 h5 h6 h7 h8 h9 cI cJ d r lc bg w rm k pn fa e1 am dd rt b pd pt tp ++ [(ho, .inl (cJ, 1, .inr (.inl (og))))]) sz) w1 t) (va_A (wX h0 h1 h2 h3 h4 h5 h6 h7 h8 h9 cI cJ d r lc bg w rm k pn fa e1 am dd rt b pd pt tp ++ [(ho, .inl (cJ, 1, .inr (.inl (og))))]) sz)) 1 6 (va_A (wX h0 h1 h2 h3 h4 h5 h6 h7 h8 h9 cI cJ d r lc bg w rm k pn fa e1 am dd rt b pd pt tp ++ [(ho, .inl (cJ, 1, .inr (.inl (og))))]) sz) := by
  refine va_MetW (cc := cL_balance) (maxL := 4) (ret := (some .int)) (hh := [(0, 8, 11, 33)]) (by decide) rfl ?_
  intro p e s m args below meth c s₁ B hml hv
  obtain ⟨hargs, hsz, hP, hK, hD0, hZ⟩ := hv
  have hx := B.exec
  have hb := B.bytes
  have hr := B.returns
  have hts := atoms_spec (ws := wsL_balance) B.pre
  have hown : s.vm.findClass RL = some m.cls := findClass_of_methodNamed B.named
  have hlocks := B.notSynchronized
  have htb : c.exceptionTable.toList = tableOf [(0, 8, 11, 33)] := vx_table (x := yL_balance) B (hts (.codeWith yL_balance cL_balance 4 (some .int) [(0, 8, 11, 33)]) (by unfold wsL_balance; exact List.mem_cons_self))
  subst hsz
  have hD := hD0.self (sz := s.heap.size)
  have hZn : ∀ q, va_A (wX h0 h1 h2 h3 h4 h5 h6 h7 h8 h9 cI cJ d r lc bg w rm k pn fa e1 am dd rt b pd pt tp) s.heap.size q → va_A (wX h0 h1 h2 h3 h4 h5 h6 h7 h8 h9 cI cJ d r lc bg w rm k pn fa e1 am dd rt b pd pt tp ++ [(ho, .inl (cJ, 1, .inr (.inl (og))))]) s.heap.size q := fun q h => h.elim (fun ⟨k, e, hk⟩ => by
    have hk9 : k < 10 := by
      have := (List.getElem?_eq_some_iff.mp hk).1
      exact this
    exact Or.inl ⟨k, e, by rw [List.getElem?_append_left (by exact hk9)]; exact hk⟩) (fun h => Or.inr h)
  generalize hAe : va_A (wX h0 h1 h2 h3 h4 h5 h6 h7 h8 h9 cI cJ d r lc bg w rm k pn fa e1 am dd rt b pd pt tp ++ [(ho, .inl (cJ, 1, .inr (.inl (og))))]) s.heap.size = A at hD ⊢
  have hA : ∀ q : Nat, s.heap.size ≤ q → A q := fun q h => by rw [← hAe]; exact Or.inr h
  have hS : va_S A s.heap s.heap [] := va_S.rf
  have hl := lv_entry ([.ref h0, .int p0, .ref ho]) (n := 4) (Nat.le_of_ble_eq_true rfl)
  have hEe : entryFrame m args 4 = entryFrame m ([.ref h0, .int p0, .ref ho] : List Value).toArray 4 := by rw [hargs]
  rw [hEe, lg_entry_eq]
  generalize (lg_sl ([.ref h0, .int p0, .ref ho]) ++ List.replicate (4 - (lg_sl ([.ref h0, .int p0, .ref ho])).length) Slot.unset).toArray = ls at hl ⊢
  have hl : lv_has ls 4 [(0, .ref h0), (1, .int p0), (2, .ref ho)] := hl
  refine lv_aload_n hx hb dL_balance_0 rfl (lv_at hl 2 rfl) ?_
  refine lv_iconst (v := nI 0) hx hb dL_balance_1 (by decide +kernel) ?_
  refine lv_aload_n hx hb dL_balance_2 rfl (lv_at hl 0 rfl) ?_
  refine lv_iload_n hx hb dL_balance_3 rfl (lv_at hl 1 rfl) ?_
  have hPc := hP.sub (ws' := wX h0 h1 h2 h3 h4 h5 h6 h7 h8 h9 cI cJ d r lc bg w rm k pn fa e1 am dd rt b pd pt tp) [0, 1, 2, 3, 4, 5, 6, 7, 8, 9] rfl
  have hDc := hD.sub (ws' := wX h0 h1 h2 h3 h4 h5 h6 h7 h8 h9 cI cJ d r lc bg w rm k pn fa e1 am dd rt b pd pt tp) [0, 1, 2, 3, 4, 5, 6, 7, 8, 9] (by decide) rfl
  refine nk_rdx (vx_runV (As := [.int p0]) (rest := [.int (nI 0), .ref ho]) ⟨hx, hb, hml, hown, hts⟩ (c_X0_balance l hfl D h0 h1 h2 h3 h4 h5 h6 h7 h8 h9 cI cJ d r lc bg w rm k pn fa e1 am dd rt b pd pt tp s.heap.size p0 z a9 hz hpa hk hb9) (cwV 1 hts gL_balance_X0_balance rfl rfl rfl (by decide +kernel) ⟨Nat.le_of_ble_eq_true rfl, Nat.le_of_ble_eq_true rfl⟩) ⟨nk_Px.blind, va_recv hK hPc (ci := 0) (q0 := 0) rfl rfl, fun U hU hW => ⟨rfl, by rw [hU], by rw [hU]; exact hPc, va_K.moved hW.alike hK, hDc.weaken (fun _ _ _ _ => trivial), by rw [hU]; exact nk_Z.go hZ hW hZn⟩⟩ rfl rfl hl.1 rfl (lv_room (Nat.le_of_ble_eq_true rfl)) dL_balance_4 ⟨Nat.le_of_ble_eq_true rfl, Nat.le_of_ble_eq_true rfl⟩) hS hA (fun E9 ce q9 H hE hz hk9 hS hce hcv hcl => ?_) (fun hw => ?_)
  · obtain ⟨rfl, hc⟩ := hE
    have hP := hP.kept (fun k q hk => hk9 q.1 ((hP k q hk).lt))
    refine vx_catch (own := RL) (name := RIO) hown [] ⟨0, 8, 11, 33⟩ [] (by rw [htb]; rfl) (fun z h => nomatch h) rfl (by decide) (hts (.classLink RL 33 RIO) (by decide +kernel)) (va_Nw.use (A := args) rfl hZ.2.1.2.2.1) hce hcv hcl ?_
    refine lv_astore_n (lv' := [(3, .ref q9), (0, .ref h0), (1, .int p0), (2, .ref ho)]) hx hb dL_balance_11 rfl hl (by decide) rfl (fun ls hl => ?_)
    refine lv_iconst (v := nI 1) hx hb dL_balance_12 (by decide +kernel) ?_
    have hP9 := hP.sub (ws' := (ho, .inl (cJ, 1, .inr (.inl (og)))) :: wX h0 h1 h2 h3 h4 h5 h6 h7 h8 h9 cI cJ d r lc bg w rm k pn fa e1 am dd rt b pd pt tp) [10, 0, 1, 2, 3, 4, 5, 6, 7, 8, 9] rfl
    have hD9 := hD.sub (ws' := (ho, .inl (cJ, 1, .inr (.inl (og)))) :: wX h0 h1 h2 h3 h4 h5 h6 h7 h8 h9 cI cJ d r lc bg w rm k pn fa e1 am dd rt b pd pt tp) [10, 0, 1, 2, 3, 4, 5, 6, 7, 8, 9] (by decide) rfl
    exact W.iret (v := nI 1) hx hb hr (fun t ht hW => ⟨⟨nI 1, _, rfl, Or.inr ⟨rfl, hc, rfl⟩, by rw [ht]; exact hP9, va_K.moved hW.alike hK, hD9⟩, hS.F ht⟩) hS.2.2 dL_balance_13
  · refine W.widen (k := 1) (n := 6) (by decide) (by decide) ?_
    refine W.eq (g2 := F0 m 7 ls [.long (lN (ceilA (b a9))), .int (nI 0), .ref ho]) rfl ?_
    have hP := hP.sub (ws' := [(ho, .inl (cJ, 1, .inr (.inl (og))))] ++ wX h0 h1 h2 h3 h4 h5 h6 h7 h8 h9 cI cJ d r lc bg w rm k pn fa e1 am dd rt b pd pt tp) [10, 0, 1, 2, 3, 4, 5, 6, 7, 8, 9] rfl
    have hD := hD.sub (ws' := [(ho, .inl (cJ, 1, .inr (.inl (og))))] ++ wX h0 h1 h2 h3 h4 h5 h6 h7 h8 h9 cI cJ d r lc bg w rm k pn fa e1 am dd rt b pd pt tp) [10, 0, 1, 2, 3, 4, 5, 6, 7, 8, 9] (by decide) rfl
    refine va_last hx hb hK hP hD hS 0 1 rfl rfl (vp_in_nI (by decide) (by decide)) dL_balance_7 (fun H locs hP hD hS => ?_)
    have e0 : (nI 0).toNatClampNeg = 0 := nI_clamp (by decide)
    rw [e0] at hP hD
    have hP : va_P D vwCl ((ho, .inl (cJ, 1, .inr (.inl (vp_updL og 0 (lN (ceilA (b a9))))))) :: (wX h0 h1 h2 h3 h4 h5 h6 h7 h8 h9 cI cJ d r lc bg w rm k pn fa e1 am dd rt b pd pt tp)) H := hP
    have hD : va_D A ((ho, .inl (cJ, 1, .inr (.inl (vp_updL og 0 (lN (ceilA (b a9))))))) :: (wX h0 h1 h2 h3 h4 h5 h6 h7 h8 h9 cI cJ d r lc bg w rm k pn fa e1 am dd rt b pd pt tp)) := hD
    refine lv_goto (tgt := 14) hx hb dL_balance_8 (by decide) ?_
    refine lv_iconst (v := nI 0) hx hb dL_balance_14 (by decide +kernel) ?_
    exact W.iret (v := nI 0) hx hb hr (fun t ht hW => ⟨⟨nI 0, _, rfl, Or.inl ⟨rfl, hw, rfl⟩, by rw [ht]; exact hP, va_K.moved hW.alike hK, hD⟩, hS.F ht⟩) hS.2.2 dL_balance_15
set_option maxHeartbeats 4000000 in
set_option maxRecDepth 100000 in
theorem c_L_charge (l : Launch) (hfl : l.stackTraces = false) (D : va_G) (h0 h1 h2 h3 h4 h5 h6 h7 h8 h9 : Nat) (cI cJ : ClassId) (d r lc bg w rm k pn : Nat) (fa e1 am dd rt b pd pt tp : Nat → Nat) (ho : Nat) (og : Nat → Int64) (sz : Nat) (p0 : Int32) (z : Int) (a9 : Nat)  (hz : p0.toInt = z) (hpa : 0 ≤ z → p0 = nI a9 ∧ a9 < 2147483648) (hlc : lc ≤ 2) (he : ∀ j, j < lc → e1 j ≤ 15001) (hed : ∀ j, j < lc → e1 j ≤ d + 1) (hk : k ≤ 20) (ham : ∀ j, j < k → am j ≤ 10000000) (hpn : pn ≤ 40) (hbg : bg ≤ d) (hd : d ≤ 15000) (hpd : ∀ j, j < pn → bg ≤ pd j ∧ pd j ≤ 15000) (hpt : ∀ j, j < pn → pt j ≤ 10000000) : Met l yL_charge wsL_charge { frames := 8, cells := 1, slots := 6, locals := 135 } (nk_Px D (wX h0 h1 h2 h3 h4 h5 h6 h7 h8 h9 cI cJ d r lc bg w rm k pn fa e1 am dd rt b pd pt tp ++ [(ho, .inl (cJ, 1, .inr (.inl (og))))]) (tX cI cJ) sz [.ref h0, .int p0, .ref ho]) (va_Qi (fun r9 w1 => (r9 = nI 0 ∧ ((1 ≤ z ∧ z ≤ 10000000) ∧ (0 < lc ∧ 0 < alive e1 lc)) ∧ w1 = (ho, .inl (cJ, 1, .inr (.inl (vp_updL og 0 ((nI (chg (mxE e1 lc) d ((d - bg) / 365) (sm am k) (pY bg pd pt ((d - bg) / 365) pn) a9)).toInt64))))) :: wX h0 h1 h2 h3 h4 h5 h6 h7 h8 h9 cI cJ d r lc bg w rm k pn fa e1 am dd rt b pd pt tp) ∨ (r9 = nI 1 ∧ (¬ (1 ≤ z ∧ z ≤ 10000000)) ∧ w1 = (ho, .inl (cJ, 1, .inr (.inl (og)))) :: wX h0 h1 h2 h3 h4 h5 h6 h7 h8 h9 cI cJ d r lc bg w rm k pn fa e1 am dd rt b pd pt tp) ∨ (r9 = nI 2 ∧ ((1 ≤ z ∧ z ≤ 10000000) ∧ ¬ (0 < lc ∧ 0 < alive e1 lc)) ∧ w1 = (ho, .inl (cJ, 1, .inr (.inl (og)))) :: wX h0 h1 h2 h3 h4 h5 h6 h7 h8 h9 cI cJ d r lc bg w rm k pn fa e1 am dd rt b pd pt tp)) (fun w1 t => nk_At D (tX cI cJ) (va_A (wX h0 h1 h2 h3 h4 h5 h6 h7 h8 h9 cI cJ d r lc bg w rm k pn fa e1 am dd rt b pd pt tp ++ [(ho, .inl (cJ, 1, .inr (.inl (og))))]) sz) w1 t) (va_A (wX h0 h1 h2 h3 h4 h5 h6 h7 h8 h9 cI cJ d r lc bg w rm k pn fa e1 am dd rt b pd pt tp ++ [(ho, .inl (cJ, 1, .inr (.inl (og))))]) sz)) 1 6 (va_A (wX h0 h1 h2 h3 h4 h5 h6 h7 h8 h9 cI cJ d r lc bg w rm k pn fa e1 am dd rt b pd pt tp ++ [(ho, .inl (cJ, 1, .inr (.inl (og))))]) sz) := by
  refine va_MetW (cc := cL_charge) (maxL := 4) (ret := (some .int)) (hh := [(0, 9, 12, 13), (0, 9, 15, 15)]) (by decide) rfl ?_
  intro p e s m args below meth c s₁ B hml hv
  obtain ⟨hargs, hsz, hP, hK, hD0, hZ⟩ := hv
  have hx := B.exec
  have hb := B.bytes
  have hr := B.returns
  have hts := atoms_spec (ws := wsL_charge) B.pre
  have hown : s.vm.findClass RL = some m.cls := findClass_of_methodNamed B.named
  have hlocks := B.notSynchronized
  have htb : c.exceptionTable.toList = tableOf [(0, 9, 12, 13), (0, 9, 15, 15)] := vx_table (x := yL_charge) B (hts (.codeWith yL_charge cL_charge 4 (some .int) [(0, 9, 12, 13), (0, 9, 15, 15)]) (by unfold wsL_charge; exact List.mem_cons_self))
  subst hsz
  have hD := hD0.self (sz := s.heap.size)
  have hZn : ∀ q, va_A (wX h0 h1 h2 h3 h4 h5 h6 h7 h8 h9 cI cJ d r lc bg w rm k pn fa e1 am dd rt b pd pt tp) s.heap.size q → va_A (wX h0 h1 h2 h3 h4 h5 h6 h7 h8 h9 cI cJ d r lc bg w rm k pn fa e1 am dd rt b pd pt tp ++ [(ho, .inl (cJ, 1, .inr (.inl (og))))]) s.heap.size q := fun q h => h.elim (fun ⟨k, e, hk⟩ => by
    have hk9 : k < 10 := by
      have := (List.getElem?_eq_some_iff.mp hk).1
      exact this
    exact Or.inl ⟨k, e, by rw [List.getElem?_append_left (by exact hk9)]; exact hk⟩) (fun h => Or.inr h)
  generalize hAe : va_A (wX h0 h1 h2 h3 h4 h5 h6 h7 h8 h9 cI cJ d r lc bg w rm k pn fa e1 am dd rt b pd pt tp ++ [(ho, .inl (cJ, 1, .inr (.inl (og))))]) s.heap.size = A at hD ⊢
  have hA : ∀ q : Nat, s.heap.size ≤ q → A q := fun q h => by rw [← hAe]; exact Or.inr h
  have hS : va_S A s.heap s.heap [] := va_S.rf
  have hl := lv_entry ([.ref h0, .int p0, .ref ho]) (n := 4) (Nat.le_of_ble_eq_true rfl)
  have hEe : entryFrame m args 4 = entryFrame m ([.ref h0, .int p0, .ref ho] : List Value).toArray 4 := by rw [hargs]
  rw [hEe, lg_entry_eq]
  generalize (lg_sl ([.ref h0, .int p0, .ref ho]) ++ List.replicate (4 - (lg_sl ([.ref h0, .int p0, .ref ho])).length) Slot.unset).toArray = ls at hl ⊢
  have hl : lv_has ls 4 [(0, .ref h0), (1, .int p0), (2, .ref ho)] := hl
  refine lv_aload_n hx hb dL_charge_0 rfl (lv_at hl 2 rfl) ?_
  refine lv_iconst (v := nI 0) hx hb dL_charge_1 (by decide +kernel) ?_
  refine lv_aload_n hx hb dL_charge_2 rfl (lv_at hl 0 rfl) ?_
  refine lv_iload_n hx hb dL_charge_3 rfl (lv_at hl 1 rfl) ?_
  have hPc := hP.sub (ws' := wX h0 h1 h2 h3 h4 h5 h6 h7 h8 h9 cI cJ d r lc bg w rm k pn fa e1 am dd rt b pd pt tp) [0, 1, 2, 3, 4, 5, 6, 7, 8, 9] rfl
  have hDc := hD.sub (ws' := wX h0 h1 h2 h3 h4 h5 h6 h7 h8 h9 cI cJ d r lc bg w rm k pn fa e1 am dd rt b pd pt tp) [0, 1, 2, 3, 4, 5, 6, 7, 8, 9] (by decide) rfl
  refine nk_rdx (vx_runV (As := [.int p0]) (rest := [.int (nI 0), .ref ho]) ⟨hx, hb, hml, hown, hts⟩ (c_X0_charge l hfl D h0 h1 h2 h3 h4 h5 h6 h7 h8 h9 cI cJ d r lc bg w rm k pn fa e1 am dd rt b pd pt tp s.heap.size p0 z a9 hz hpa hlc he hed hk ham hpn hbg hd hpd hpt) (cwV 1 hts gL_charge_X0_charge rfl rfl rfl (by decide +kernel) ⟨Nat.le_of_ble_eq_true rfl, Nat.le_of_ble_eq_true rfl⟩) ⟨nk_Px.blind, va_recv hK hPc (ci := 0) (q0 := 0) rfl rfl, fun U hU hW => ⟨rfl, by rw [hU], by rw [hU]; exact hPc, va_K.moved hW.alike hK, hDc.weaken (fun _ _ _ _ => trivial), by rw [hU]; exact nk_Z.go hZ hW hZn⟩⟩ rfl rfl hl.1 rfl (lv_room (Nat.le_of_ble_eq_true rfl)) dL_charge_4 ⟨Nat.le_of_ble_eq_true rfl, Nat.le_of_ble_eq_true rfl⟩) hS hA (fun E9 ce q9 H hE hz hk9 hS hce hcv hcl => ?_) (fun hw => ?_)
  · rcases hE with ⟨rfl, hc⟩ | ⟨rfl, hc⟩
    · have hP := hP.kept (fun k q hk => hk9 q.1 ((hP k q hk).lt))
      refine vx_catch (own := RL) (name := RIA) hown [] ⟨0, 9, 12, 13⟩ [⟨0, 9, 15, 15⟩] (by rw [htb]; rfl) (fun z h => nomatch h) rfl (by decide) (hts (.classLink RL 13 RIA) (by decide +kernel)) (va_Nw.use (A := args) rfl hZ.2.1.1) hce hcv hcl ?_
      refine lv_astore_n (lv' := [(3, .ref q9), (0, .ref h0), (1, .int p0), (2, .ref ho)]) hx hb dL_charge_12 rfl hl (by decide) rfl (fun ls hl => ?_)
      refine lv_iconst (v := nI 1) hx hb dL_charge_13 (by decide +kernel) ?_
      have hP9 := hP.sub (ws' := (ho, .inl (cJ, 1, .inr (.inl (og)))) :: wX h0 h1 h2 h3 h4 h5 h6 h7 h8 h9 cI cJ d r lc bg w rm k pn fa e1 am dd rt b pd pt tp) [10, 0, 1, 2, 3, 4, 5, 6, 7, 8, 9] rfl
      have hD9 := hD.sub (ws' := (ho, .inl (cJ, 1, .inr (.inl (og)))) :: wX h0 h1 h2 h3 h4 h5 h6 h7 h8 h9 cI cJ d r lc bg w rm k pn fa e1 am dd rt b pd pt tp) [10, 0, 1, 2, 3, 4, 5, 6, 7, 8, 9] (by decide) rfl
      exact W.iret (v := nI 1) hx hb hr (fun t ht hW => ⟨⟨nI 1, _, rfl, Or.inr (Or.inl ⟨rfl, hc, rfl⟩), by rw [ht]; exact hP9, va_K.moved hW.alike hK, hD9⟩, hS.F ht⟩) hS.2.2 dL_charge_14
    · have hP := hP.kept (fun k q hk => hk9 q.1 ((hP k q hk).lt))
      refine vx_catch (own := RL) (name := RIS) hown [⟨0, 9, 12, 13⟩] ⟨0, 9, 15, 15⟩ [] (by rw [htb]; rfl) (fun z h => by rw [List.mem_singleton] at h; subst h; exact Or.inr ⟨by decide, RIA, hts (.classLink RL 13 RIA) (by decide +kernel), hZ.2.1.2.2.2.1⟩) rfl (by decide) (hts (.classLink RL 15 RIS) (by decide +kernel)) (va_Nw.use (A := args) rfl hZ.2.1.2.1) hce hcv hcl ?_
      refine lv_astore_n (lv' := [(3, .ref q9), (0, .ref h0), (1, .int p0), (2, .ref ho)]) hx hb dL_charge_15 rfl hl (by decide) rfl (fun ls hl => ?_)
      refine lv_iconst (v := nI 2) hx hb dL_charge_16 (by decide +kernel) ?_
      have hP9 := hP.sub (ws' := (ho, .inl (cJ, 1, .inr (.inl (og)))) :: wX h0 h1 h2 h3 h4 h5 h6 h7 h8 h9 cI cJ d r lc bg w rm k pn fa e1 am dd rt b pd pt tp) [10, 0, 1, 2, 3, 4, 5, 6, 7, 8, 9] rfl
      have hD9 := hD.sub (ws' := (ho, .inl (cJ, 1, .inr (.inl (og)))) :: wX h0 h1 h2 h3 h4 h5 h6 h7 h8 h9 cI cJ d r lc bg w rm k pn fa e1 am dd rt b pd pt tp) [10, 0, 1, 2, 3, 4, 5, 6, 7, 8, 9] (by decide) rfl
      exact W.iret (v := nI 2) hx hb hr (fun t ht hW => ⟨⟨nI 2, _, rfl, Or.inr (Or.inr ⟨rfl, hc, rfl⟩), by rw [ht]; exact hP9, va_K.moved hW.alike hK, hD9⟩, hS.F ht⟩) hS.2.2 dL_charge_17
  · refine W.widen (k := 1) (n := 6) (by decide) (by decide) ?_
    refine W.eq (g2 := F0 m 7 ls [.int (nI (chg (mxE e1 lc) d ((d - bg) / 365) (sm am k) (pY bg pd pt ((d - bg) / 365) pn) a9)), .int (nI 0), .ref ho]) rfl ?_
    have hP := hP.sub (ws' := [(ho, .inl (cJ, 1, .inr (.inl (og))))] ++ wX h0 h1 h2 h3 h4 h5 h6 h7 h8 h9 cI cJ d r lc bg w rm k pn fa e1 am dd rt b pd pt tp) [10, 0, 1, 2, 3, 4, 5, 6, 7, 8, 9] rfl
    have hD := hD.sub (ws' := [(ho, .inl (cJ, 1, .inr (.inl (og))))] ++ wX h0 h1 h2 h3 h4 h5 h6 h7 h8 h9 cI cJ d r lc bg w rm k pn fa e1 am dd rt b pd pt tp) [10, 0, 1, 2, 3, 4, 5, 6, 7, 8, 9] (by decide) rfl
    refine lv_i2l hx hb dL_charge_7 rfl ?_
    refine va_last hx hb hK hP hD hS 0 1 rfl rfl (vp_in_nI (by decide) (by decide)) dL_charge_8 (fun H locs hP hD hS => ?_)
    have e0 : (nI 0).toNatClampNeg = 0 := nI_clamp (by decide)
    rw [e0] at hP hD
    have hP : va_P D vwCl ((ho, .inl (cJ, 1, .inr (.inl (vp_updL og 0 (((nI (chg (mxE e1 lc) d ((d - bg) / 365) (sm am k) (pY bg pd pt ((d - bg) / 365) pn) a9))).toInt64))))) :: (wX h0 h1 h2 h3 h4 h5 h6 h7 h8 h9 cI cJ d r lc bg w rm k pn fa e1 am dd rt b pd pt tp)) H := hP
    have hD : va_D A ((ho, .inl (cJ, 1, .inr (.inl (vp_updL og 0 (((nI (chg (mxE e1 lc) d ((d - bg) / 365) (sm am k) (pY bg pd pt ((d - bg) / 365) pn) a9))).toInt64))))) :: (wX h0 h1 h2 h3 h4 h5 h6 h7 h8 h9 cI cJ d r lc bg w rm k pn fa e1 am dd rt b pd pt tp)) := hD
    refine lv_goto (tgt := 18) hx hb dL_charge_9 (by decide) ?_
    refine lv_iconst (v := nI 0) hx hb dL_charge_18 (by decide +kernel) ?_
    exact W.iret (v := nI 0) hx hb hr (fun t ht hW => ⟨⟨nI 0, _, rfl, Or.inl ⟨rfl, hw, rfl⟩, by rw [ht]; exact hP, va_K.moved hW.alike hK, hD⟩, hS.F ht⟩) hS.2.2 dL_charge_19
