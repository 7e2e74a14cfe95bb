set_option maxHeartbeats 4000000 in
set_option maxRecDepth 100000 in
theorem c_X0_isBegun (l : Launch) (D : va_G) (h0 h1 h2 h3 h4 h5 h6 h7 h8 h9 : Nat) (cI cJ : ClassId) (d r lc bg w rm k pn : Nat) (fa e1 am dd rt b pd pt tp : Nat → Nat)  (hlc : lc ≤ 2) : Met l yX0_isBegun wsX0_isBegun { frames := 0, cells := 0, slots := 0, locals := 0 } (nk_Pr D (wX h0 h1 h2 h3 h4 h5 h6 h7 h8 h9 cI cJ d r lc bg w rm k pn fa e1 am dd rt b pd pt tp) (tX cI cJ) [.ref h0]) (nk_Rd (some (.int (nI (if 0 < lc then 1 else 0))))) 0 0 (fun _ => False) := by
  refine Met.ofW (cc := cX0_isBegun) (maxL := 1) (ret := (some .boolean)) (by decide) rfl ?_
  intro p e s m args below meth c s₁ B hml hv
  obtain ⟨hargs, hP, hK⟩ := hv
  have hx := B.exec
  have hb := B.bytes
  have hr := B.returns
  have hts := atoms_spec (ws := wsX0_isBegun) B.pre
  have hown : s.vm.findClass RX0 = some m.cls := findClass_of_methodNamed B.named
  have hlocks := B.notSynchronized
  have hin : ∀ w ∈ wsX00, w ∈ wsX0_isBegun := by decide +kernel
  have f120 := hts (.fieldLink RX0 120 "EquityRelease" "lifeCount" "I") (by decide +kernel)
  have hl := lv_entry ([.ref h0]) (n := 1) (Nat.le_of_ble_eq_true rfl)
  have hEe : entryFrame m args 1 = entryFrame m ([.ref h0] : List Value).toArray 1 := by rw [hargs]
  rw [hEe, lg_entry_eq]
  generalize (lg_sl ([.ref h0]) ++ List.replicate (1 - (lg_sl ([.ref h0])).length) Slot.unset).toArray = ls at hl ⊢
  have hl : lv_has ls 1 [(0, .ref h0)] := hl
  refine lv_aload_n hx hb dX0_isBegun_0 rfl (lv_at hl 0 rfl) ?_
  refine va_get (D := D) (ci := 0) (v := .int (nI lc)) (C := RX0) (T := TX0) (N := 17) hx hb hts hin hown hK hP 0 rfl rfl 2 (by decide) f120 (fun _ h9 => h9) rfl dX0_isBegun_1 ?_
  refine nk_if_le (tgt := 11) hx hb (by omega) dX0_isBegun_4 (by decide) (fun c4 => ?_) (fun c4 => ?_)
  · refine lv_iconst (v := nI 0) hx hb dX0_isBegun_11 (by decide +kernel) ?_
    exact W.zret (ty := .boolean) hx hb hr rfl (fun t ht hW => ⟨by rw [if_neg (by omega)], ht⟩) (fun z h => nomatch h) dX0_isBegun_12
  · refine lv_iconst (v := nI 1) hx hb dX0_isBegun_7 (by decide +kernel) ?_
    refine lv_goto (tgt := 12) hx hb dX0_isBegun_8 (by decide) ?_
    exact W.zret (ty := .boolean) hx hb hr rfl (fun t ht hW => ⟨by rw [if_pos c4], ht⟩) (fun z h => nomatch h) dX0_isBegun_12
set_option maxHeartbeats 4000000 in
set_option maxRecDepth 100000 in
theorem c_X0_livesLeft (l : Launch) (D : va_G) (h0 h1 h2 h3 h4 h5 h6 h7 h8 h9 : Nat) (cI cJ : ClassId) (d r lc bg w rm k pn : Nat) (fa e1 am dd rt b pd pt tp : Nat → Nat)  (hlc : lc ≤ 2) (he : ∀ j, j < lc → e1 j ≤ 15001) : Met l yX0_livesLeft wsX0_livesLeft { frames := 0, cells := 0, slots := 0, locals := 0 } (nk_Pr D (wX h0 h1 h2 h3 h4 h5 h6 h7 h8 h9 cI cJ d r lc bg w rm k pn fa e1 am dd rt b pd pt tp) (tX cI cJ) [.ref h0]) (nk_Rd (some (.int (nI (alive e1 lc))))) 0 0 (fun _ => False) := by
  refine Met.ofW (cc := cX0_livesLeft) (maxL := 3) (ret := (some .int)) (by decide) rfl ?_
  intro p e s m args below meth c s₁ B hml hv
  obtain ⟨hargs, hP, hK⟩ := hv
  have hx := B.exec
  have hb := B.bytes
  have hr := B.returns
  have hts := atoms_spec (ws := wsX0_livesLeft) B.pre
  have hown : s.vm.findClass RX0 = some m.cls := findClass_of_methodNamed B.named
  have hlocks := B.notSynchronized
  have hin : ∀ w ∈ wsX00, w ∈ wsX0_livesLeft := by decide +kernel
  have f120 := hts (.fieldLink RX0 120 "EquityRelease" "lifeCount" "I") (by decide +kernel)
  have f17 := hts (.fieldLink RX0 17 "EquityRelease" "endDays" "[I") (by decide +kernel)
  have hl := lv_entry ([.ref h0]) (n := 3) (Nat.le_of_ble_eq_true rfl)
  have hEe : entryFrame m args 3 = entryFrame m ([.ref h0] : List Value).toArray 3 := by rw [hargs]
  rw [hEe, lg_entry_eq]
  generalize (lg_sl ([.ref h0]) ++ List.replicate (3 - (lg_sl ([.ref h0])).length) Slot.unset).toArray = ls at hl ⊢
  have hl : lv_has ls 3 [(0, .ref h0)] := hl
  refine lv_iconst (v := nI 0) hx hb dX0_livesLeft_0 (by decide +kernel) ?_
  refine lv_istore_n (lv' := [(1, .int (nI 0)), (0, .ref h0)]) hx hb dX0_livesLeft_1 rfl hl (by decide) rfl (fun ls hl => ?_)
  refine lv_iconst (v := nI 0) hx hb dX0_livesLeft_2 (by decide +kernel) ?_
  refine lv_istore_n (lv' := [(2, .int (nI 0)), (1, .int (nI 0)), (0, .ref h0)]) hx hb dX0_livesLeft_3 rfl hl (by decide) rfl (fun ls hl => ?_)
  have loop4 : ∀ (n : Nat) (i : Nat), (i ≤ lc) → lc + 1 ≤ i + n → ∀ ls : Array Slot, lv_has ls 3 [(0, .ref h0), (1, .int (nI (alive e1 i))), (2, .int (nI i))] → W p l e (headSpec wsX0_livesLeft { frames := 0, cells := 0, slots := 0, locals := 0 }).room s m args below meth c s.heap [] 0 0 (MQ below (nk_Rd (some (.int (nI (alive e1 lc))))) args s 0 0 (fun _ => False)) (F0 m 4 ls []) := by
    intro n
    induction n with
    | zero =>
      intro i hi hm
      exfalso; omega
    | succ n ih4 =>
      intro i hi hm ls hl
      refine lv_iload_n hx hb dX0_livesLeft_4 rfl (lv_at hl 2 rfl) ?_
      refine lv_aload_n hx hb dX0_livesLeft_5 rfl (lv_at hl 0 rfl) ?_
      refine va_get (D := D) (ci := 0) (v := .int (nI lc)) (C := RX0) (T := TX0) (N := 17) hx hb hts hin hown hK hP 0 rfl rfl 2 (by decide) f120 (fun _ h9 => h9) rfl dX0_livesLeft_6 ?_
      refine nk_icmp_ge (tgt := 31) hx hb (by omega) (by omega) dX0_livesLeft_9 (by decide) (fun c9 => ?_) (fun c9 => ?_)
      · refine lv_iload_n hx hb dX0_livesLeft_31 rfl (lv_at hl 1 rfl) ?_
        refine nk_topi (y := (nI (alive e1 lc))) (by rw [show i = lc from by omega]) ?_
        exact W.iret hx hb hr (fun t ht hW => ⟨rfl, ht⟩) (fun z h => nomatch h) dX0_livesLeft_32
      · refine lv_aload_n hx hb dX0_livesLeft_12 rfl (lv_at hl 0 rfl) ?_
        refine va_get (D := D) (ci := 0) (v := .ref h2) (C := RX0) (T := TX0) (N := 17) hx hb hts hin hown hK hP 0 rfl rfl 4 (by decide) f17 (fun _ h9 => h9) rfl dX0_livesLeft_13 ?_
        refine lv_iload_n hx hb dX0_livesLeft_16 rfl (lv_at hl 2 rfl) ?_
        refine nk_eald hx hb hK hP 2 0 rfl rfl (by omega) (by decide) dX0_livesLeft_17 ?_
        refine lv_iconst (v := -1) hx hb dX0_livesLeft_18 (by decide) ?_
        have he1 := he i (by omega)
        refine nk_ecmp_ne (tgt := 25) hx hb (by omega) dX0_livesLeft_19 (by decide) (fun c19 => ?_) (fun c19 => ?_)
        · refine lv_iinc (v := (nI (i + 1))) (lv' := [(2, .int (nI (i + 1))), (0, .ref h0), (1, .int (nI (alive e1 i)))]) hx hb dX0_livesLeft_25 hl (k := 2) rfl (nI_1 _) (by decide) rfl (fun ls hl => ?_)
          refine lv_goto (tgt := 4) hx hb dX0_livesLeft_28 (by decide) ?_
          have q9 : ((nI (alive e1 (i + 1)))) = ((nI (alive e1 i))) := (by rw [alive_s, if_neg (by omega), Nat.add_zero])
          have hl : lv_has ls 3 [(0, .ref h0), (1, .int (nI (alive e1 (i + 1)))), (2, .int (nI (i + 1)))] := by
            rw [q9]
            exact lv_sub hl [1, 2, 0] rfl
          exact ih4 (i + 1) (by omega) (by omega) ls hl
        · refine lv_iinc (v := (nI (alive e1 i + 1))) (lv' := [(1, .int (nI (alive e1 i + 1))), (0, .ref h0), (2, .int (nI i))]) hx hb dX0_livesLeft_22 hl (k := 1) rfl (nI_1 _) (by decide) rfl (fun ls hl => ?_)
          refine lv_iinc (v := (nI (i + 1))) (lv' := [(2, .int (nI (i + 1))), (1, .int (nI (alive e1 i + 1))), (0, .ref h0)]) hx hb dX0_livesLeft_25 hl (k := 2) rfl (nI_1 _) (by decide) rfl (fun ls hl => ?_)
          refine lv_goto (tgt := 4) hx hb dX0_livesLeft_28 (by decide) ?_
          have q9 : ((nI (alive e1 (i + 1)))) = ((nI (alive e1 i + 1))) := (by rw [alive_s, if_pos c19])
          have hl : lv_has ls 3 [(0, .ref h0), (1, .int (nI (alive e1 (i + 1)))), (2, .int (nI (i + 1)))] := by
            rw [q9]
            exact lv_sub hl [2, 1, 0] rfl
          exact ih4 (i + 1) (by omega) (by omega) ls hl
  exact loop4 (lc + 1) 0 (by omega) (by omega) ls (lv_sub hl [2, 1, 0] rfl)
set_option maxHeartbeats 4000000 in
set_option maxRecDepth 100000 in
theorem c_X0_hasEnded (l : Launch) (D : va_G) (h0 h1 h2 h3 h4 h5 h6 h7 h8 h9 : Nat) (cI cJ : ClassId) (d r lc bg w rm k pn : Nat) (fa e1 am dd rt b pd pt tp : Nat → Nat)  (hlc : lc ≤ 2) (he : ∀ j, j < lc → e1 j ≤ 15001) : Met l yX0_hasEnded wsX0_hasEnded { frames := 1, cells := 0, slots := 0, locals := 22 } (nk_Pr D (wX h0 h1 h2 h3 h4 h5 h6 h7 h8 h9 cI cJ d r lc bg w rm k pn fa e1 am dd rt b pd pt tp) (tX cI cJ) [.ref h0]) (nk_Rd (some (.int (nI (if 0 < lc ∧ alive e1 lc = 0 then 1 else 0))))) 0 0 (fun _ => False) := by
  refine Met.ofW (cc := cX0_hasEnded) (maxL := 1) (ret := (some .boolean)) (by decide) rfl ?_
  intro p e s m args below meth c s₁ B hml hv
  obtain ⟨hargs, hP, hK⟩ := hv
  have hx := B.exec
  have hb := B.bytes
  have hr := B.returns
  have hts := atoms_spec (ws := wsX0_hasEnded) B.pre
  have hown : s.vm.findClass RX0 = some m.cls := findClass_of_methodNamed B.named
  have hlocks := B.notSynchronized
  have hin : ∀ w ∈ wsX00, w ∈ wsX0_hasEnded := by decide +kernel
  have hl := lv_entry ([.ref h0]) (n := 1) (Nat.le_of_ble_eq_true rfl)
  have hEe : entryFrame m args 1 = entryFrame m ([.ref h0] : List Value).toArray 1 := by rw [hargs]
  rw [hEe, lg_entry_eq]
  generalize (lg_sl ([.ref h0]) ++ List.replicate (1 - (lg_sl ([.ref h0])).length) Slot.unset).toArray = ls at hl ⊢
  have hl : lv_has ls 1 [(0, .ref h0)] := hl
  refine lv_aload_n hx hb dX0_hasEnded_0 rfl (lv_at hl 0 rfl) ?_
  refine nk_rd (W.runV (As := []) (rest := []) ⟨hx, hb, hml, hown, hts⟩ (c_X0_isBegun l D h0 h1 h2 h3 h4 h5 h6 h7 h8 h9 cI cJ d r lc bg w rm k pn fa e1 am dd rt b pd pt tp hlc) (cwV 0 hts gX0_hasEnded_X0_isBegun rfl rfl rfl (by decide +kernel) ⟨Nat.le_of_ble_eq_true rfl, Nat.le_of_ble_eq_true rfl⟩) ⟨nk_Pr.blind, va_recv hK hP (ci := 0) (q0 := 0) rfl rfl, fun U hU hW => ⟨rfl, by rw [hU]; exact hP, va_K.moved hW.alike hK⟩⟩ rfl rfl hl.1 rfl (lv_room (Nat.le_of_ble_eq_true rfl)) dX0_hasEnded_1 ⟨Nat.zero_le _, Nat.zero_le _⟩) ?_
  refine W.eq (g2 := F0 m 4 ls [.int (nI (if 0 < lc then 1 else 0))]) rfl ?_
  refine nk_bif_eq (tgt := 18) hx hb dX0_hasEnded_4 (by decide) (fun c4 => ?_) (fun c4 => ?_)
  · refine lv_iconst (v := nI 0) hx hb dX0_hasEnded_18 (by decide +kernel) ?_
    exact W.zret (ty := .boolean) hx hb hr rfl (fun t ht hW => ⟨by rw [if_neg (by omega)], ht⟩) (fun z h => nomatch h) dX0_hasEnded_19
  · refine lv_aload_n hx hb dX0_hasEnded_7 rfl (lv_at hl 0 rfl) ?_
    refine nk_rd (W.runV (As := []) (rest := []) ⟨hx, hb, hml, hown, hts⟩ (c_X0_livesLeft l D h0 h1 h2 h3 h4 h5 h6 h7 h8 h9 cI cJ d r lc bg w rm k pn fa e1 am dd rt b pd pt tp hlc he) (cwV 0 hts gX0_hasEnded_X0_livesLeft rfl rfl rfl (by decide +kernel) ⟨Nat.le_of_ble_eq_true rfl, Nat.le_of_ble_eq_true rfl⟩) ⟨nk_Pr.blind, va_recv hK hP (ci := 0) (q0 := 0) rfl rfl, fun U hU hW => ⟨rfl, by rw [hU]; exact hP, va_K.moved hW.alike hK⟩⟩ rfl rfl hl.1 rfl (lv_room (Nat.le_of_ble_eq_true rfl)) dX0_hasEnded_8 ⟨Nat.zero_le _, Nat.zero_le _⟩) ?_
    refine W.eq (g2 := F0 m 11 ls [.int (nI (alive e1 lc))]) rfl ?_
    have hal := alive_le e1 lc
    refine nk_if_ne (tgt := 18) hx hb (by omega) dX0_hasEnded_11 (by decide) (fun c11 => ?_) (fun c11 => ?_)
    · refine lv_iconst (v := nI 0) hx hb dX0_hasEnded_18 (by decide +kernel) ?_
      exact W.zret (ty := .boolean) hx hb hr rfl (fun t ht hW => ⟨by rw [if_neg (by omega)], ht⟩) (fun z h => nomatch h) dX0_hasEnded_19
    · refine lv_iconst (v := nI 1) hx hb dX0_hasEnded_14 (by decide +kernel) ?_
      refine lv_goto (tgt := 19) hx hb dX0_hasEnded_15 (by decide) ?_
      exact W.zret (ty := .boolean) hx hb hr rfl (fun t ht hW => ⟨by rw [if_pos ⟨c4, c11⟩], ht⟩) (fun z h => nomatch h) dX0_hasEnded_19
set_option maxHeartbeats 4000000 in
set_option maxRecDepth 100000 in
theorem c_X0_requireWithin (l : Launch) (hfl : l.stackTraces = false) (sz : Nat) (x : Int32) (z : Int) (lo hi : Nat) (hz : x.toInt = z) (hlo : lo < 1000000000) (hhi : hi < 1000000000) : vx_Met l yX0_requireWithin wsX0_requireWithin { frames := 6, cells := 1, slots := 6, locals := 92 } (nk_Ps sz [.int x, .int (nI lo), .int (nI hi)]) (nk_RdP none ((lo : Int) ≤ z ∧ z ≤ (hi : Int))) (nk_XC (fun E => E = RIA ∧ (z < (lo : Int) ∨ (hi : Int) < z)) sz) 1 6 (fun _ => False) := by
  refine vx_ofW (cc := cX0_requireWithin) (maxL := 3) (ret := none) (by decide) rfl ?_
  intro p e s m args below meth c s₁ B hml htab hv
  obtain ⟨hargs, hsz, hZ⟩ := hv
  have hx := B.exec
  have hb := B.bytes
  have hr := B.returns
  have hts := atoms_spec (ws := wsX0_requireWithin) B.pre
  have hown : s.vm.findClass RX0 = some m.cls := findClass_of_methodNamed B.named
  have hlocks := B.notSynchronized
  subst hsz
  have hA : ∀ q : Nat, s.heap.size ≤ q → (fun q => s.heap.size ≤ q) q := fun q h => h
  have hS : va_S (fun q => s.heap.size ≤ q) s.heap s.heap [] := va_S.rf
  have hSz : va_S ((fun q => s.heap.size ≤ q)) s.heap s.heap [] := va_S.rf
  obtain ⟨fx, hr65, hr92, hr101, hr111, hr125, hr128, hr134, hr136, hr145, hr167, hr170⟩ := hZ.2.2.2
  have a169 : ∀ w ∈ vx_atS RX0 169 RIA ["java/lang/RuntimeException", "java/lang/Exception"], w.before args s = true := vx_hat (B := [.castable RIA RIA, .declares (Bundle.initS "java/lang/RuntimeException"), .declares (Bundle.initS "java/lang/Exception"), .declares (Bundle.initS Bundle.tN)]) (fun w h => hts w ((by decide +kernel : ∀ w ∈ (vx_atS RX0 169 RIA ["java/lang/RuntimeException", "java/lang/Exception"]).filter goodWord, w ∈ wsX0_requireWithin) w h)) (by decide +kernel) (vx_c (va_Nw.use (A := args) rfl hZ.2.1.1) (vx_c (va_Nw.use (A := args) rfl hZ.2.2.1.1) (vx_c (va_Nw.use (A := args) rfl hZ.2.2.1.2.1) (vx_c (va_Nw.use (A := args) rfl hZ.2.2.1.2.2) vx_n))))
  have hl := lv_entry ([.int x, .int (nI lo), .int (nI hi)]) (n := 3) (Nat.le_of_ble_eq_true rfl)
  have hEe : entryFrame m args 3 = entryFrame m ([.int x, .int (nI lo), .int (nI hi)] : List Value).toArray 3 := by rw [hargs]
  rw [hEe, lg_entry_eq]
  generalize (lg_sl ([.int x, .int (nI lo), .int (nI hi)]) ++ List.replicate (3 - (lg_sl ([.int x, .int (nI lo), .int (nI hi)])).length) Slot.unset).toArray = ls at hl ⊢
  have hl : lv_has ls 3 [(0, .int x), (1, .int (nI lo)), (2, .int (nI hi))] := hl
  refine lv_iload_n hx hb dX0_requireWithin_0 rfl (lv_at hl 0 rfl) ?_
  refine lv_iload_n hx hb dX0_requireWithin_1 rfl (lv_at hl 1 rfl) ?_
  refine nk_zcmp_lt (tgt := 10) hx hb hz (nI_toInt (by omega)) dX0_requireWithin_2 (by decide) (fun c2 => ?_) (fun c2 => ?_)
  · exact vx_throwS (own := RX0) (cls := RIA) (names := ["java/lang/RuntimeException", "java/lang/Exception"]) (ik := 165) (is := 167) (ic := 169) (A := (fun q => s.heap.size ≤ q)) hx hb hfl hown (by decide +kernel) (by decide +kernel) (hts (.classLink RX0 165 RIA) (by decide +kernel)) (hts (.initialized RIA) (by decide +kernel)) hr167 a169 (by decide +kernel) hZ.1.1 hZ.1.2 hSz (hl.1.trans hml.symm) dX0_requireWithin_10 dX0_requireWithin_13 dX0_requireWithin_14 dX0_requireWithin_16 dX0_requireWithin_19 (fun x h => (htab x h).elim) (Nat.le_of_ble_eq_true rfl) (Nat.le_of_ble_eq_true rfl) (Nat.le_of_ble_eq_true rfl) (Nat.le_of_ble_eq_true rfl) hlocks (fun t hvm hsz9 hk9 => ⟨(), trivial, ⟨rfl, by omega⟩, hsz9, fun q h1 _ => hk9 q h1⟩) (fun z h => nomatch h) (Nat.le_of_ble_eq_true rfl) (Nat.le_of_ble_eq_true rfl)
  · refine lv_iload_n hx hb dX0_requireWithin_5 rfl (lv_at hl 0 rfl) ?_
    refine lv_iload_n hx hb dX0_requireWithin_6 rfl (lv_at hl 2 rfl) ?_
    refine nk_zcmp_le (tgt := 20) hx hb hz (nI_toInt (by omega)) dX0_requireWithin_7 (by decide) (fun c7 => ?_) (fun c7 => ?_)
    · refine vx_ret ?_
      refine W.widen (k := 1) (n := 6) (by decide) (by decide) ?_
      exact W.vret hx hb hr (fun t ht hW => ⟨rfl, ⟨by omega, by omega⟩, ht⟩) (fun z h => nomatch h) dX0_requireWithin_20
    · exact vx_throwS (own := RX0) (cls := RIA) (names := ["java/lang/RuntimeException", "java/lang/Exception"]) (ik := 165) (is := 167) (ic := 169) (A := (fun q => s.heap.size ≤ q)) hx hb hfl hown (by decide +kernel) (by decide +kernel) (hts (.classLink RX0 165 RIA) (by decide +kernel)) (hts (.initialized RIA) (by decide +kernel)) hr167 a169 (by decide +kernel) hZ.1.1 hZ.1.2 hSz (hl.1.trans hml.symm) dX0_requireWithin_10 dX0_requireWithin_13 dX0_requireWithin_14 dX0_requireWithin_16 dX0_requireWithin_19 (fun x h => (htab x h).elim) (Nat.le_of_ble_eq_true rfl) (Nat.le_of_ble_eq_true rfl) (Nat.le_of_ble_eq_true rfl) (Nat.le_of_ble_eq_true rfl) hlocks (fun t hvm hsz9 hk9 => ⟨(), trivial, ⟨rfl, by omega⟩, hsz9, fun q h1 _ => hk9 q h1⟩) (fun z h => nomatch h) (Nat.le_of_ble_eq_true rfl) (Nat.le_of_ble_eq_true rfl)
set_option maxHeartbeats 4000000 in
set_option maxRecDepth 100000 in
theorem c_X0_requireRunning (l : Launch) (hfl : l.stackTraces = false) (D : va_G) (h0 h1 h2 h3 h4 h5 h6 h7 h8 h9 : Nat) (cI cJ : ClassId) (d r lc bg w rm k pn : Nat) (fa e1 am dd rt b pd pt tp : Nat → Nat) (sz : Nat)  (hlc : lc ≤ 2) (he : ∀ j, j < lc → e1 j ≤ 15001) : vx_Met l yX0_requireRunning wsX0_requireRunning { frames := 6, cells := 1, slots := 6, locals := 92 } (nk_Px D (wX h0 h1 h2 h3 h4 h5 h6 h7 h8 h9 cI cJ d r lc bg w rm k pn fa e1 am dd rt b pd pt tp) (tX cI cJ) sz [.ref h0]) (nk_RdP none (0 < lc ∧ 0 < alive e1 lc)) (nk_XC (fun E => E = RIS ∧ ¬ (0 < lc ∧ 0 < alive e1 lc)) sz) 1 6 (fun _ => False) := by
  refine vx_ofW (cc := cX0_requireRunning) (maxL := 1) (ret := none) (by decide) rfl ?_
  intro p e s m args below meth c s₁ B hml htab hv
  obtain ⟨hargs, hsz, hP, hK, hD0, hZ⟩ := hv
  have hx := B.exec
  have hb := B.bytes
  have hr := B.returns
  have hts := atoms_spec (ws := wsX0_requireRunning) B.pre
  have hown : s.vm.findClass RX0 = some m.cls := findClass_of_methodNamed B.named
  have hlocks := B.notSynchronized
  subst hsz
  have hin : ∀ w ∈ wsX00, w ∈ wsX0_requireRunning := by decide +kernel
  have hD := hD0.self (sz := s.heap.size)
  have hA : ∀ q : Nat, s.heap.size ≤ q → (fun q => s.heap.size ≤ q) q := fun q h => h
  have hS : va_S (fun q => s.heap.size ≤ q) s.heap s.heap [] := va_S.rf
  have hSz : va_S (va_A (wX h0 h1 h2 h3 h4 h5 h6 h7 h8 h9 cI cJ d r lc bg w rm k pn fa e1 am dd rt b pd pt tp) s.heap.size) s.heap s.heap [] := va_S.rf
  obtain ⟨fx, hr65, hr92, hr101, hr111, hr125, hr128, hr134, hr136, hr145, hr167, hr170⟩ := hZ.2.2.2
  have a67 : ∀ w ∈ vx_atS RX0 67 RIS ["java/lang/RuntimeException", "java/lang/Exception"], w.before args s = true := vx_hat (B := [.castable RIS RIS, .declares (Bundle.initS "java/lang/RuntimeException"), .declares (Bundle.initS "java/lang/Exception"), .declares (Bundle.initS Bundle.tN)]) (fun w h => hts w ((by decide +kernel : ∀ w ∈ (vx_atS RX0 67 RIS ["java/lang/RuntimeException", "java/lang/Exception"]).filter goodWord, w ∈ wsX0_requireRunning) w h)) (by decide +kernel) (vx_c (va_Nw.use (A := args) rfl hZ.2.1.2.1) (vx_c (va_Nw.use (A := args) rfl hZ.2.2.1.1) (vx_c (va_Nw.use (A := args) rfl hZ.2.2.1.2.1) (vx_c (va_Nw.use (A := args) rfl hZ.2.2.1.2.2) vx_n))))
  have hl := lv_entry ([.ref h0]) (n := 1) (Nat.le_of_ble_eq_true rfl)
  have hEe : entryFrame m args 1 = entryFrame m ([.ref h0] : List Value).toArray 1 := by rw [hargs]
  rw [hEe, lg_entry_eq]
  generalize (lg_sl ([.ref h0]) ++ List.replicate (1 - (lg_sl ([.ref h0])).length) Slot.unset).toArray = ls at hl ⊢
  have hl : lv_has ls 1 [(0, .ref h0)] := hl
  refine lv_aload_n hx hb dX0_requireRunning_0 rfl (lv_at hl 0 rfl) ?_
  refine nk_rd (W.runV (As := []) (rest := []) ⟨hx, hb, hml, hown, hts⟩ (c_X0_isBegun l D h0 h1 h2 h3 h4 h5 h6 h7 h8 h9 cI cJ d r lc bg w rm k pn fa e1 am dd rt b pd pt tp hlc) (cwV 0 hts gX0_requireRunning_X0_isBegun rfl rfl rfl (by decide +kernel) ⟨Nat.le_of_ble_eq_true rfl, Nat.le_of_ble_eq_true rfl⟩) ⟨nk_Pr.blind, va_recv hK hP (ci := 0) (q0 := 0) rfl rfl, fun U hU hW => ⟨rfl, by rw [hU]; exact hP, va_K.moved hW.alike hK⟩⟩ rfl rfl hl.1 rfl (lv_room (Nat.le_of_ble_eq_true rfl)) dX0_requireRunning_1 ⟨Nat.zero_le _, Nat.zero_le _⟩) ?_
  refine W.eq (g2 := F0 m 4 ls [.int (nI (if 0 < lc then 1 else 0))]) rfl ?_
  refine nk_bif_eq (tgt := 14) hx hb dX0_requireRunning_4 (by decide) (fun c4 => ?_) (fun c4 => ?_)
  · exact vx_throwS (own := RX0) (cls := RIS) (names := ["java/lang/RuntimeException", "java/lang/Exception"]) (ik := 63) (is := 170) (ic := 67) (A := va_A (wX h0 h1 h2 h3 h4 h5 h6 h7 h8 h9 cI cJ d r lc bg w rm k pn fa e1 am dd rt b pd pt tp) s.heap.size) hx hb hfl hown (by decide +kernel) (by decide +kernel) (hts (.classLink RX0 63 RIS) (by decide +kernel)) (hts (.initialized RIS) (by decide +kernel)) hr170 a67 (by decide +kernel) hZ.1.1 hZ.1.2 hSz (hl.1.trans hml.symm) dX0_requireRunning_14 dX0_requireRunning_17 dX0_requireRunning_18 dX0_requireRunning_20 dX0_requireRunning_23 (fun x h => (htab x h).elim) (Nat.le_of_ble_eq_true rfl) (Nat.le_of_ble_eq_true rfl) (Nat.le_of_ble_eq_true rfl) (Nat.le_of_ble_eq_true rfl) hlocks (fun t hvm hsz9 hk9 => ⟨(), trivial, ⟨rfl, by omega⟩, hsz9, fun q h1 _ => hk9 q h1⟩) (fun z h => nomatch h) (Nat.le_of_ble_eq_true rfl) (Nat.le_of_ble_eq_true rfl)
  · refine lv_aload_n hx hb dX0_requireRunning_7 rfl (lv_at hl 0 rfl) ?_
    refine nk_rd (W.runV (As := []) (rest := []) ⟨hx, hb, hml, hown, hts⟩ (c_X0_hasEnded l D h0 h1 h2 h3 h4 h5 h6 h7 h8 h9 cI cJ d r lc bg w rm k pn fa e1 am dd rt b pd pt tp hlc he) (cwV 0 hts gX0_requireRunning_X0_hasEnded rfl rfl rfl (by decide +kernel) ⟨Nat.le_of_ble_eq_true rfl, Nat.le_of_ble_eq_true rfl⟩) ⟨nk_Pr.blind, va_recv hK hP (ci := 0) (q0 := 0) rfl rfl, fun U hU hW => ⟨rfl, by rw [hU]; exact hP, va_K.moved hW.alike hK⟩⟩ rfl rfl hl.1 rfl (lv_room (Nat.le_of_ble_eq_true rfl)) dX0_requireRunning_8 ⟨Nat.zero_le _, Nat.zero_le _⟩) ?_
    refine W.eq (g2 := F0 m 11 ls [.int (nI (if 0 < lc ∧ alive e1 lc = 0 then 1 else 0))]) rfl ?_
    refine nk_bif_eq (tgt := 24) hx hb dX0_requireRunning_11 (by decide) (fun c11 => ?_) (fun c11 => ?_)
    · refine vx_ret ?_
      refine W.widen (k := 1) (n := 6) (by decide) (by decide) ?_
      exact W.vret hx hb hr (fun t ht hW => ⟨rfl, ⟨c4, by omega⟩, ht⟩) (fun z h => nomatch h) dX0_requireRunning_24
    · exact vx_throwS (own := RX0) (cls := RIS) (names := ["java/lang/RuntimeException", "java/lang/Exception"]) (ik := 63) (is := 170) (ic := 67) (A := va_A (wX h0 h1 h2 h3 h4 h5 h6 h7 h8 h9 cI cJ d r lc bg w rm k pn fa e1 am dd rt b pd pt tp) s.heap.size) hx hb hfl hown (by decide +kernel) (by decide +kernel) (hts (.classLink RX0 63 RIS) (by decide +kernel)) (hts (.initialized RIS) (by decide +kernel)) hr170 a67 (by decide +kernel) hZ.1.1 hZ.1.2 hSz (hl.1.trans hml.symm) dX0_requireRunning_14 dX0_requireRunning_17 dX0_requireRunning_18 dX0_requireRunning_20 dX0_requireRunning_23 (fun x h => (htab x h).elim) (Nat.le_of_ble_eq_true rfl) (Nat.le_of_ble_eq_true rfl) (Nat.le_of_ble_eq_true rfl) (Nat.le_of_ble_eq_true rfl) hlocks (fun t hvm hsz9 hk9 => ⟨(), trivial, ⟨rfl, by omega⟩, hsz9, fun q h1 _ => hk9 q h1⟩) (fun z h => nomatch h) (Nat.le_of_ble_eq_true rfl) (Nat.le_of_ble_eq_true rfl)
set_option maxHeartbeats 4000000 in
set_option maxRecDepth 100000 in
theorem c_X0_lastEndDay (l : Launch) (D : va_G) (h0 h1 h2 h3 h4 h5 h6 h7 h8 h9 : Nat) (cI cJ : ClassId) (d r lc bg w rm k pn : Nat) (fa e1 am dd rt b pd pt tp : Nat → Nat)  (hlc : lc ≤ 2) (he : ∀ j, j < lc → e1 j ≤ 15001) : Met l yX0_lastEndDay wsX0_lastEndDay { frames := 1, cells := 0, slots := 0, locals := 24 } (nk_Pr D (wX h0 h1 h2 h3 h4 h5 h6 h7 h8 h9 cI cJ d r lc bg w rm k pn fa e1 am dd rt b pd pt tp) (tX cI cJ) [.ref h0]) (nk_Rd (some (.int (nI (mxE e1 lc) - 1)))) 0 0 (fun _ => False) := by
  refine Met.ofW (cc := cX0_lastEndDay) (maxL := 3) (ret := (some .int)) (by decide) rfl ?_
  intro p e s m args below meth c s₁ B hml hv
  obtain ⟨hargs, hP, hK⟩ := hv
  have hx := B.exec
  have hb := B.bytes
  have hr := B.returns
  have hts := atoms_spec (ws := wsX0_lastEndDay) B.pre
  have hown : s.vm.findClass RX0 = some m.cls := findClass_of_methodNamed B.named
  have hlocks := B.notSynchronized
  have hin : ∀ w ∈ wsX00, w ∈ wsX0_lastEndDay := by decide +kernel
  have f120 := hts (.fieldLink RX0 120 "EquityRelease" "lifeCount" "I") (by decide +kernel)
  have f17 := hts (.fieldLink RX0 17 "EquityRelease" "endDays" "[I") (by decide +kernel)
  have hl := lv_entry ([.ref h0]) (n := 3) (Nat.le_of_ble_eq_true rfl)
  have hEe : entryFrame m args 3 = entryFrame m ([.ref h0] : List Value).toArray 3 := by rw [hargs]
  rw [hEe, lg_entry_eq]
  generalize (lg_sl ([.ref h0]) ++ List.replicate (3 - (lg_sl ([.ref h0])).length) Slot.unset).toArray = ls at hl ⊢
  have hl : lv_has ls 3 [(0, .ref h0)] := hl
  refine lv_iconst (v := -1) hx hb dX0_lastEndDay_0 (by decide) ?_
  refine lv_istore_n (lv' := [(1, .int (-1)), (0, .ref h0)]) hx hb dX0_lastEndDay_1 rfl hl (by decide) rfl (fun ls hl => ?_)
  refine lv_iconst (v := nI 0) hx hb dX0_lastEndDay_2 (by decide +kernel) ?_
  refine lv_istore_n (lv' := [(2, .int (nI 0)), (1, .int (-1)), (0, .ref h0)]) hx hb dX0_lastEndDay_3 rfl hl (by decide) rfl (fun ls hl => ?_)
  have loop4 : ∀ (n : Nat) (i : Nat), (i ≤ lc) → lc + 1 ≤ i + n → ∀ ls : Array Slot, lv_has ls 3 [(0, .ref h0), (1, .int (nI (mxE e1 i) - 1)), (2, .int (nI i))] → W p l e (headSpec wsX0_lastEndDay { frames := 1, cells := 0, slots := 0, locals := 24 }).room s m args below meth c s.heap [] 0 0 (MQ below (nk_Rd (some (.int (nI (mxE e1 lc) - 1)))) args s 0 0 (fun _ => False)) (F0 m 4 ls []) := by
    intro n
    induction n with
    | zero =>
      intro i hi hm
      exfalso; omega
    | succ n ih4 =>
      intro i hi hm ls hl
      refine lv_iload_n hx hb dX0_lastEndDay_4 rfl (lv_at hl 2 rfl) ?_
      refine lv_aload_n hx hb dX0_lastEndDay_5 rfl (lv_at hl 0 rfl) ?_
      refine va_get (D := D) (ci := 0) (v := .int (nI lc)) (C := RX0) (T := TX0) (N := 17) hx hb hts hin hown hK hP 0 rfl rfl 2 (by decide) f120 (fun _ h9 => h9) rfl dX0_lastEndDay_6 ?_
      refine nk_icmp_ge (tgt := 29) hx hb (by omega) (by omega) dX0_lastEndDay_9 (by decide) (fun c9 => ?_) (fun c9 => ?_)
      · refine lv_iload_n hx hb dX0_lastEndDay_29 rfl (lv_at hl 1 rfl) ?_
        refine nk_topi (y := (nI (mxE e1 lc) - 1)) (by rw [show i = lc from by omega]) ?_
        exact W.iret hx hb hr (fun t ht hW => ⟨rfl, ht⟩) (fun z h => nomatch h) dX0_lastEndDay_30
      · refine lv_iload_n hx hb dX0_lastEndDay_12 rfl (lv_at hl 1 rfl) ?_
        refine lv_aload_n hx hb dX0_lastEndDay_13 rfl (lv_at hl 0 rfl) ?_
        refine va_get (D := D) (ci := 0) (v := .ref h2) (C := RX0) (T := TX0) (N := 17) hx hb hts hin hown hK hP 0 rfl rfl 4 (by decide) f17 (fun _ h9 => h9) rfl dX0_lastEndDay_14 ?_
        refine lv_iload_n hx hb dX0_lastEndDay_17 rfl (lv_at hl 2 rfl) ?_
        refine nk_eald hx hb hK hP 2 0 rfl rfl (by omega) (by decide) dX0_lastEndDay_18 ?_
        have he1 := he i (by omega)
        have he2 := mxE_le (f := e1) (M := 15001) i (fun j hj => he j (by omega))
        refine va_mmax hx hb (hml.trans hl.1.symm) hown (hts (.methodLink RX0 163 Lib.Math.max.name) (by decide +kernel)) (hts (.static Lib.Math.max.name) (by decide +kernel)) (hts (.initialized "java/lang/Math") (by decide +kernel)) (hts (.code Lib.Math.max.name Lib.Math.max.code 2 (some .int)) (by decide +kernel)) (Nat.le_of_ble_eq_true rfl) (Nat.le_of_ble_eq_true rfl) (Nat.zero_le _) (Nat.zero_le _) dX0_lastEndDay_19 ?_
        refine nk_topi (y := (nI (max (mxE e1 i) (e1 i)) - 1)) (nk_maxE (by omega) (by omega)) ?_
        refine lv_istore_n (lv' := [(1, .int (nI (max (mxE e1 i) (e1 i)) - 1)), (0, .ref h0), (2, .int (nI i))]) hx hb dX0_lastEndDay_22 rfl hl (by decide) rfl (fun ls hl => ?_)
        refine lv_iinc (v := (nI (i + 1))) (lv' := [(2, .int (nI (i + 1))), (1, .int (nI (max (mxE e1 i) (e1 i)) - 1)), (0, .ref h0)]) hx hb dX0_lastEndDay_23 hl (k := 2) rfl (nI_1 _) (by decide) rfl (fun ls hl => ?_)
        refine lv_goto (tgt := 4) hx hb dX0_lastEndDay_26 (by decide) ?_
        have q9 : ((nI (mxE e1 (i + 1)) - 1)) = ((nI (max (mxE e1 i) (e1 i)) - 1)) := rfl
        have hl : lv_has ls 3 [(0, .ref h0), (1, .int (nI (mxE e1 (i + 1)) - 1)), (2, .int (nI (i + 1)))] := by
          rw [q9]
          exact lv_sub hl [2, 1, 0] rfl
        exact ih4 (i + 1) (by omega) (by omega) ls hl
  have hl : lv_has ls 3 [(0, .ref h0), (1, .int (nI (mxE e1 0) - 1)), (2, .int (nI 0))] := by
    rw [show (nI (mxE e1 0) - 1 : Int32) = -1 from nk_m1.symm]
    exact lv_sub hl [2, 1, 0] rfl
  exact loop4 (lc + 1) 0 (by omega) (by omega) ls hl
set_option maxHeartbeats 4000000 in
set_option maxRecDepth 100000 in
theorem c_X0_age (l : Launch) (D : va_G) (h0 h1 h2 h3 h4 h5 h6 h7 h8 h9 : Nat) (cI cJ : ClassId) (d r lc bg w rm k pn : Nat) (fa e1 am dd rt b pd pt tp : Nat → Nat)  (hlc : lc ≤ 2) (he : ∀ j, j < lc → e1 j ≤ 15001) (hfa : ∀ j, j < lc → 55 ≤ fa j ∧ fa j ≤ 95) (hd : d ≤ 15000) : Met l yX0_age wsX0_age { frames := 0, cells := 0, slots := 0, locals := 0 } (nk_Pr D (wX h0 h1 h2 h3 h4 h5 h6 h7 h8 h9 cI cJ d r lc bg w rm k pn fa e1 am dd rt b pd pt tp) (tX cI cJ) [.ref h0]) (nk_Rd (some (.int (nI (agE fa e1 lc (d / 365)) - 1)))) 0 0 (fun _ => False) := by
  refine Met.ofW (cc := cX0_age) (maxL := 3) (ret := (some .int)) (by decide) rfl ?_
  intro p e s m args below meth c s₁ B hml hv
  obtain ⟨hargs, hP, hK⟩ := hv
  have hx := B.exec
  have hb := B.bytes
  have hr := B.returns
  have hts := atoms_spec (ws := wsX0_age) B.pre
  have hown : s.vm.findClass RX0 = some m.cls := findClass_of_methodNamed B.named
  have hlocks := B.notSynchronized
  have hin : ∀ w ∈ wsX00, w ∈ wsX0_age := by decide +kernel
  have f120 := hts (.fieldLink RX0 120 "EquityRelease" "lifeCount" "I") (by decide +kernel)
  have f53 := hts (.fieldLink RX0 53 "EquityRelease" "today" "I") (by decide +kernel)
  have f17 := hts (.fieldLink RX0 17 "EquityRelease" "endDays" "[I") (by decide +kernel)
  have f13 := hts (.fieldLink RX0 13 "EquityRelease" "firstAges" "[I") (by decide +kernel)
  have hl := lv_entry ([.ref h0]) (n := 3) (Nat.le_of_ble_eq_true rfl)
  have hEe : entryFrame m args 3 = entryFrame m ([.ref h0] : List Value).toArray 3 := by rw [hargs]
  rw [hEe, lg_entry_eq]
  generalize (lg_sl ([.ref h0]) ++ List.replicate (3 - (lg_sl ([.ref h0])).length) Slot.unset).toArray = ls at hl ⊢
  have hl : lv_has ls 3 [(0, .ref h0)] := hl
  refine lv_iconst (v := -1) hx hb dX0_age_0 (by decide) ?_
  refine lv_istore_n (lv' := [(1, .int (-1)), (0, .ref h0)]) hx hb dX0_age_1 rfl hl (by decide) rfl (fun ls hl => ?_)
  refine lv_iconst (v := nI 0) hx hb dX0_age_2 (by decide +kernel) ?_
  refine lv_istore_n (lv' := [(2, .int (nI 0)), (1, .int (-1)), (0, .ref h0)]) hx hb dX0_age_3 rfl hl (by decide) rfl (fun ls hl => ?_)
  have loop4 : ∀ (n : Nat) (i : Nat), (i ≤ lc) → lc + 1 ≤ i + n → ∀ ls : Array Slot, lv_has ls 3 [(0, .ref h0), (1, .int (nI (lstA fa e1 i) - 1)), (2, .int (nI i))] → W p l e (headSpec wsX0_age { frames := 0, cells := 0, slots := 0, locals := 0 }).room s m args below meth c s.heap [] 0 0 (MQ below (nk_Rd (some (.int (nI (agE fa e1 lc (d / 365)) - 1)))) args s 0 0 (fun _ => False)) (F0 m 4 ls []) := by
    intro n
    induction n with
    | zero =>
      intro i hi hm
      exfalso; omega
    | succ n ih4 =>
      intro i hi hm ls hl
      refine lv_iload_n hx hb dX0_age_4 rfl (lv_at hl 2 rfl) ?_
      refine lv_aload_n hx hb dX0_age_5 rfl (lv_at hl 0 rfl) ?_
      refine va_get (D := D) (ci := 0) (v := .int (nI lc)) (C := RX0) (T := TX0) (N := 17) hx hb hts hin hown hK hP 0 rfl rfl 2 (by decide) f120 (fun _ h9 => h9) rfl dX0_age_6 ?_
      refine nk_icmp_ge (tgt := 50) hx hb (by omega) (by omega) dX0_age_9 (by decide) (fun c9 => ?_) (fun c9 => ?_)
      · have e9 : i = lc := by omega
        rw [e9] at hl
        have hl1 := lstA_le (f := e1) lc hfa
        refine lv_iload_n hx hb dX0_age_50 rfl (lv_at hl 1 rfl) ?_
        refine lv_iconst (v := -1) hx hb dX0_age_51 (by decide) ?_
        refine nk_ecmp_ne (tgt := 59) hx hb (by omega) dX0_age_52 (by decide) (fun c52 => ?_) (fun c52 => ?_)
        · refine lv_iload_n hx hb dX0_age_59 rfl (lv_at hl 1 rfl) ?_
          refine nk_topi (y := (nI (lstA fa e1 lc - 1))) (nk_e1 c52) ?_
          refine lv_aload_n hx hb dX0_age_60 rfl (lv_at hl 0 rfl) ?_
          refine va_get (D := D) (ci := 0) (v := .int (nI d)) (C := RX0) (T := TX0) (N := 17) hx hb hts hin hown hK hP 0 rfl rfl 0 (by decide) f53 (fun _ h9 => h9) rfl dX0_age_61 ?_
          refine lv_sipush (v := nI 365) hx hb dX0_age_64 (by decide +kernel) ?_
          refine nk_idiv hx hb (by omega) (by decide) (by decide) dX0_age_67 ?_
          refine nk_iadd hx hb dX0_age_68 ?_
          refine nk_topi (y := (nI (agE fa e1 lc (d / 365)) - 1)) (agE_r c52) ?_
          exact W.iret hx hb hr (fun t ht hW => ⟨rfl, ht⟩) (fun z h => nomatch h) dX0_age_69
        · refine lv_iconst (v := -1) hx hb dX0_age_55 (by decide) ?_
          refine lv_goto (tgt := 69) hx hb dX0_age_56 (by decide) ?_
          refine nk_topi (y := (nI (agE fa e1 lc (d / 365)) - 1)) (by rw [agE_0 c52]; exact nk_m1) ?_
          exact W.iret hx hb hr (fun t ht hW => ⟨rfl, ht⟩) (fun z h => nomatch h) dX0_age_69
      · refine lv_aload_n hx hb dX0_age_12 rfl (lv_at hl 0 rfl) ?_
        refine va_get (D := D) (ci := 0) (v := .ref h2) (C := RX0) (T := TX0) (N := 17) hx hb hts hin hown hK hP 0 rfl rfl 4 (by decide) f17 (fun _ h9 => h9) rfl dX0_age_13 ?_
        refine lv_iload_n hx hb dX0_age_16 rfl (lv_at hl 2 rfl) ?_
        refine nk_eald hx hb hK hP 2 0 rfl rfl (by omega) (by decide) dX0_age_17 ?_
        refine lv_iconst (v := -1) hx hb dX0_age_18 (by decide) ?_
        have he1 := he i (by omega)
        have hf1 := hfa i (by omega)
        have hl1 := lstA_le (f := e1) i (fun j hj => hfa j (by omega))
        refine nk_ecmp_ne (tgt := 44) hx hb (by omega) dX0_age_19 (by decide) (fun c19 => ?_) (fun c19 => ?_)
        · refine lv_iinc (v := (nI (i + 1))) (lv' := [(2, .int (nI (i + 1))), (0, .ref h0), (1, .int (nI (lstA fa e1 i) - 1))]) hx hb dX0_age_44 hl (k := 2) rfl (nI_1 _) (by decide) rfl (fun ls hl => ?_)
          refine lv_goto (tgt := 4) hx hb dX0_age_47 (by decide) ?_
          have q9 : ((nI (lstA fa e1 (i + 1)) - 1)) = ((nI (lstA fa e1 i) - 1)) := (by rw [lstA_s, if_neg (by omega)])
          have hl : lv_has ls 3 [(0, .ref h0), (1, .int (nI (lstA fa e1 (i + 1)) - 1)), (2, .int (nI (i + 1)))] := by
            rw [q9]
            exact lv_sub hl [1, 2, 0] rfl
          exact ih4 (i + 1) (by omega) (by omega) ls hl
        · refine lv_iload_n hx hb dX0_age_22 rfl (lv_at hl 1 rfl) ?_
          refine lv_iconst (v := -1) hx hb dX0_age_23 (by decide) ?_
          refine nk_ecmp_eq (tgt := 37) hx hb (by omega) dX0_age_24 (by decide) (fun c24 => ?_) (fun c24 => ?_)
          · refine lv_aload_n hx hb dX0_age_37 rfl (lv_at hl 0 rfl) ?_
            refine va_get (D := D) (ci := 0) (v := .ref h1) (C := RX0) (T := TX0) (N := 17) hx hb hts hin hown hK hP 0 rfl rfl 3 (by decide) f13 (fun _ h9 => h9) rfl dX0_age_38 ?_
            refine lv_iload_n hx hb dX0_age_41 rfl (lv_at hl 2 rfl) ?_
            refine nk_iald hx hb hK hP 1 0 rfl rfl (by omega) (by decide) dX0_age_42 ?_
            refine lv_istore_n (lv' := [(1, .int (nI (fa i))), (0, .ref h0), (2, .int (nI i))]) hx hb dX0_age_43 rfl hl (by decide) rfl (fun ls hl => ?_)
            refine lv_iinc (v := (nI (i + 1))) (lv' := [(2, .int (nI (i + 1))), (1, .int (nI (fa i))), (0, .ref h0)]) hx hb dX0_age_44 hl (k := 2) rfl (nI_1 _) (by decide) rfl (fun ls hl => ?_)
            refine lv_goto (tgt := 4) hx hb dX0_age_47 (by decide) ?_
            have q9 : ((nI (lstA fa e1 (i + 1)) - 1)) = ((nI (fa i))) := (by rw [lstA_s, if_pos ⟨c19, Or.inl c24⟩, nk_e2])
            have hl : lv_has ls 3 [(0, .ref h0), (1, .int (nI (lstA fa e1 (i + 1)) - 1)), (2, .int (nI (i + 1)))] := by
              rw [q9]
              exact lv_sub hl [2, 1, 0] rfl
            exact ih4 (i + 1) (by omega) (by omega) ls hl
          · refine lv_aload_n hx hb dX0_age_27 rfl (lv_at hl 0 rfl) ?_
            refine va_get (D := D) (ci := 0) (v := .ref h1) (C := RX0) (T := TX0) (N := 17) hx hb hts hin hown hK hP 0 rfl rfl 3 (by decide) f13 (fun _ h9 => h9) rfl dX0_age_28 ?_
            refine lv_iload_n hx hb dX0_age_31 rfl (lv_at hl 2 rfl) ?_
            refine nk_iald hx hb hK hP 1 0 rfl rfl (by omega) (by decide) dX0_age_32 ?_
            refine lv_iload_n hx hb dX0_age_33 rfl (lv_at hl 1 rfl) ?_
            refine nk_topi (y := (nI (lstA fa e1 i - 1))) (nk_e1 c24) ?_
            refine nk_icmp_ge (tgt := 44) hx hb (by omega) (by omega) dX0_age_34 (by decide) (fun c34 => ?_) (fun c34 => ?_)
            · refine lv_iinc (v := (nI (i + 1))) (lv' := [(2, .int (nI (i + 1))), (0, .ref h0), (1, .int (nI (lstA fa e1 i) - 1))]) hx hb dX0_age_44 hl (k := 2) rfl (nI_1 _) (by decide) rfl (fun ls hl => ?_)
              refine lv_goto (tgt := 4) hx hb dX0_age_47 (by decide) ?_
              have q9 : ((nI (lstA fa e1 (i + 1)) - 1)) = ((nI (lstA fa e1 i) - 1)) := (by rw [lstA_s, if_neg (by omega)])
              have hl : lv_has ls 3 [(0, .ref h0), (1, .int (nI (lstA fa e1 (i + 1)) - 1)), (2, .int (nI (i + 1)))] := by
                rw [q9]
                exact lv_sub hl [1, 2, 0] rfl
              exact ih4 (i + 1) (by omega) (by omega) ls hl
            · refine lv_aload_n hx hb dX0_age_37 rfl (lv_at hl 0 rfl) ?_
              refine va_get (D := D) (ci := 0) (v := .ref h1) (C := RX0) (T := TX0) (N := 17) hx hb hts hin hown hK hP 0 rfl rfl 3 (by decide) f13 (fun _ h9 => h9) rfl dX0_age_38 ?_
              refine lv_iload_n hx hb dX0_age_41 rfl (lv_at hl 2 rfl) ?_
              refine nk_iald hx hb hK hP 1 0 rfl rfl (by omega) (by decide) dX0_age_42 ?_
              refine lv_istore_n (lv' := [(1, .int (nI (fa i))), (0, .ref h0), (2, .int (nI i))]) hx hb dX0_age_43 rfl hl (by decide) rfl (fun ls hl => ?_)
              refine lv_iinc (v := (nI (i + 1))) (lv' := [(2, .int (nI (i + 1))), (1, .int (nI (fa i))), (0, .ref h0)]) hx hb dX0_age_44 hl (k := 2) rfl (nI_1 _) (by decide) rfl (fun ls hl => ?_)
              refine lv_goto (tgt := 4) hx hb dX0_age_47 (by decide) ?_
              have q9 : ((nI (lstA fa e1 (i + 1)) - 1)) = ((nI (fa i))) := (by rw [lstA_s, if_pos ⟨c19, Or.inr (by omega)⟩, nk_e2])
              have hl : lv_has ls 3 [(0, .ref h0), (1, .int (nI (lstA fa e1 (i + 1)) - 1)), (2, .int (nI (i + 1)))] := by
                rw [q9]
                exact lv_sub hl [2, 1, 0] rfl
              exact ih4 (i + 1) (by omega) (by omega) ls hl
  have hl : lv_has ls 3 [(0, .ref h0), (1, .int (nI (lstA fa e1 0) - 1)), (2, .int (nI 0))] := by
    rw [show (nI (lstA fa e1 0) - 1 : Int32) = -1 from nk_m1.symm]
    exact lv_sub hl [2, 1, 0] rfl
  exact loop4 (lc + 1) 0 (by omega) (by omega) ls hl
set_option maxHeartbeats 4000000 in
set_option maxRecDepth 100000 in
theorem c_X0_greatestLoan (l : Launch) (w9 a9 : Nat) (hw : w9 ≤ 10000000) (ha : 35 ≤ a9) (ha2 : a9 ≤ 1000) : Met l yX0_greatestLoan wsX0_greatestLoan { frames := 1, cells := 0, slots := 0, locals := 24 } (nk_P0 [.int (nI w9), .int (nI a9)]) (nk_Rd (some (.int (nI (gL w9 a9))))) 0 0 (fun _ => False) := by
  refine Met.ofW (cc := cX0_greatestLoan) (maxL := 3) (ret := (some .int)) (by decide) rfl ?_
  intro p e s m args below meth c s₁ B hml hv
  obtain ⟨hargs, -⟩ := hv
  have hx := B.exec
  have hb := B.bytes
  have hr := B.returns
  have hts := atoms_spec (ws := wsX0_greatestLoan) B.pre
  have hown : s.vm.findClass RX0 = some m.cls := findClass_of_methodNamed B.named
  have hlocks := B.notSynchronized
  have hl := lv_entry ([.int (nI w9), .int (nI a9)]) (n := 3) (Nat.le_of_ble_eq_true rfl)
  have hEe : entryFrame m args 3 = entryFrame m ([.int (nI w9), .int (nI a9)] : List Value).toArray 3 := by rw [hargs]
  rw [hEe, lg_entry_eq]
  generalize (lg_sl ([.int (nI w9), .int (nI a9)]) ++ List.replicate (3 - (lg_sl ([.int (nI w9), .int (nI a9)])).length) Slot.unset).toArray = ls at hl ⊢
  have hl : lv_has ls 3 [(0, .int (nI w9)), (1, .int (nI a9))] := hl
  refine lv_bipush (v := nI 55) hx hb dX0_greatestLoan_0 (by decide +kernel) ?_
  refine lv_bipush (v := nI 20) hx hb dX0_greatestLoan_2 (by decide +kernel) ?_
  refine lv_iload_n hx hb dX0_greatestLoan_4 rfl (lv_at hl 1 rfl) ?_
  refine nk_iadd hx hb dX0_greatestLoan_5 ?_
  refine lv_bipush (v := nI 55) hx hb dX0_greatestLoan_6 (by decide +kernel) ?_
  refine nk_isub hx hb (by omega) dX0_greatestLoan_8 ?_
  refine va_mmin hx hb (hml.trans hl.1.symm) hown (hts (.methodLink RX0 47 Lib.Math.min.name) (by decide +kernel)) (hts (.static Lib.Math.min.name) (by decide +kernel)) (hts (.initialized "java/lang/Math") (by decide +kernel)) (hts (.code Lib.Math.min.name Lib.Math.min.code 2 (some .int)) (by decide +kernel)) (Nat.le_of_ble_eq_true rfl) (Nat.le_of_ble_eq_true rfl) (Nat.zero_le _) (Nat.zero_le _) dX0_greatestLoan_9 ?_
  refine nk_topi (y := (nI (min 55 ((20 + a9) - 55)))) (nk_min (by omega) (by omega)) ?_
  refine lv_istore_n (lv' := [(2, .int (nI (min 55 ((20 + a9) - 55)))), (0, .int (nI w9)), (1, .int (nI a9))]) hx hb dX0_greatestLoan_12 rfl hl (by decide) rfl (fun ls hl => ?_)
  refine lv_iload_n hx hb dX0_greatestLoan_13 rfl (lv_at hl 1 rfl) ?_
  refine lv_iload_n hx hb dX0_greatestLoan_14 rfl (lv_at hl 0 rfl) ?_
  refine nk_imul hx hb dX0_greatestLoan_15 ?_
  refine lv_bipush (v := nI 100) hx hb dX0_greatestLoan_16 (by decide +kernel) ?_
  have h9 : w9 * min 55 (20 + a9 - 55) ≤ 10000000 * 55 := Nat.mul_le_mul hw (Nat.min_le_left _ _)
  refine nk_idiv hx hb (by omega) (by decide) (by decide) dX0_greatestLoan_18 ?_
  refine nk_topi (y := (nI (gL w9 a9))) rfl ?_
  exact W.iret hx hb hr (fun t ht hW => ⟨rfl, ht⟩) (fun z h => nomatch h) dX0_greatestLoan_19
set_option maxHeartbeats 4000000 in
set_option maxRecDepth 100000 in
theorem c_X0_wholeAmount (l : Launch) (x9 : Nat) (hx9 : x9 < 4611686018427387904) : Met l yX0_wholeAmount wsX0_wholeAmount { frames := 0, cells := 0, slots := 0, locals := 0 } (nk_P0 [.long (lN x9)]) (nk_Rd (some (.long (lN (ceilA x9))))) 0 0 (fun _ => False) := by
  refine Met.ofW (cc := cX0_wholeAmount) (maxL := 2) (ret := (some .long)) (by decide) rfl ?_
  intro p e s m args below meth c s₁ B hml hv
  obtain ⟨hargs, -⟩ := hv
  have hx := B.exec
  have hb := B.bytes
  have hr := B.returns
  have hts := atoms_spec (ws := wsX0_wholeAmount) B.pre
  have hown : s.vm.findClass RX0 = some m.cls := findClass_of_methodNamed B.named
  have hlocks := B.notSynchronized
  have k172 : (Cond.constantLong RX0 172 (lN 10000)).before args s = true := by
    rw [show (lN 10000 : Int64) = 10000 from by decide +kernel]
    exact hts (.constantLong RX0 172 (10000)) (by decide +kernel)
  have hl := lv_entry ([.long (lN x9)]) (n := 2) (Nat.le_of_ble_eq_true rfl)
  have hEe : entryFrame m args 2 = entryFrame m ([.long (lN x9)] : List Value).toArray 2 := by rw [hargs]
  rw [hEe, lg_entry_eq]
  generalize (lg_sl ([.long (lN x9)]) ++ List.replicate (2 - (lg_sl ([.long (lN x9)])).length) Slot.unset).toArray = ls at hl ⊢
  have hl : lv_has ls 2 [(0, .long (lN x9))] := hl
  refine lv_lload_n hx hb dX0_wholeAmount_0 rfl (lv_at hl 0 rfl) ?_
  refine lv_ldc2 (v := lN 10000) hx hb hown k172 dX0_wholeAmount_1 ?_
  refine nk_ladd hx hb dX0_wholeAmount_4 ?_
  refine lv_lconst (v := lN 1) hx hb dX0_wholeAmount_5 (by decide +kernel) ?_
  refine nk_lsub hx hb (by omega) dX0_wholeAmount_6 ?_
  refine lv_ldc2 (v := lN 10000) hx hb hown k172 dX0_wholeAmount_7 ?_
  refine nk_ldiv hx hb (by omega) (by decide) (by decide) dX0_wholeAmount_10 ?_
  refine nk_topl (y := (lN (ceilA x9))) (by unfold ceilA; rw [show x9 + 10000 - 1 = x9 + 9999 from by omega]) ?_
  exact W.lret hx hb hr (fun t ht hW => ⟨rfl, ht⟩) (fun z h => nomatch h) dX0_wholeAmount_11
set_option maxHeartbeats 4000000 in
set_option maxRecDepth 100000 in
theorem c_X0_debt (l : Launch) (D : va_G) (h0 h1 h2 h3 h4 h5 h6 h7 h8 h9 : Nat) (cI cJ : ClassId) (d r lc bg w rm k pn : Nat) (fa e1 am dd rt b pd pt tp : Nat → Nat)  (hk : k ≤ 20) (hbs : sm b k < 4611686018427387904) : Met l yX0_debt wsX0_debt { frames := 1, cells := 0, slots := 0, locals := 21 } (nk_Pr D (wX h0 h1 h2 h3 h4 h5 h6 h7 h8 h9 cI cJ d r lc bg w rm k pn fa e1 am dd rt b pd pt tp) (tX cI cJ) [.ref h0]) (nk_Rd (some (.long (lN (ceilA (sm b k)))))) 0 0 (fun _ => False) := by
  refine Met.ofW (cc := cX0_debt) (maxL := 4) (ret := (some .long)) (by decide) rfl ?_
  intro p e s m args below meth c s₁ B hml hv
  obtain ⟨hargs, hP, hK⟩ := hv
  have hx := B.exec
  have hb := B.bytes
  have hr := B.returns
  have hts := atoms_spec (ws := wsX0_debt) B.pre
  have hown : s.vm.findClass RX0 = some m.cls := findClass_of_methodNamed B.named
  have hlocks := B.notSynchronized
  have hin : ∀ w ∈ wsX00, w ∈ wsX0_debt := by decide +kernel
  have f89 := hts (.fieldLink RX0 89 "EquityRelease" "drawingCount" "I") (by decide +kernel)
  have f29 := hts (.fieldLink RX0 29 "EquityRelease" "balances" "[J") (by decide +kernel)
  have hl := lv_entry ([.ref h0]) (n := 4) (Nat.le_of_ble_eq_true rfl)
  have hEe : entryFrame m args 4 = entryFrame m ([.ref h0] : List Value).toArray 4 := by rw [hargs]
  rw [hEe, lg_entry_eq]
  generalize (lg_sl ([.ref h0]) ++ List.replicate (4 - (lg_sl ([.ref h0])).length) Slot.unset).toArray = ls at hl ⊢
  have hl : lv_has ls 4 [(0, .ref h0)] := hl
  refine lv_lconst (v := lN 0) hx hb dX0_debt_0 (by decide +kernel) ?_
  refine lv_lstore_n (lv' := [(1, .long (lN 0)), (0, .ref h0)]) hx hb dX0_debt_1 rfl hl (by decide) rfl (fun ls hl => ?_)
  refine lv_iconst (v := nI 0) hx hb dX0_debt_2 (by decide +kernel) ?_
  refine lv_istore_n (lv' := [(3, .int (nI 0)), (1, .long (lN 0)), (0, .ref h0)]) hx hb dX0_debt_3 rfl hl (by decide) rfl (fun ls hl => ?_)
  have loop4 : ∀ (n : Nat) (i : Nat), (i ≤ k) → k + 1 ≤ i + n → ∀ ls : Array Slot, lv_has ls 4 [(0, .ref h0), (1, .long (lN (sm b i))), (3, .int (nI i))] → W p l e (headSpec wsX0_debt { frames := 1, cells := 0, slots := 0, locals := 21 }).room s m args below meth c s.heap [] 0 0 (MQ below (nk_Rd (some (.long (lN (ceilA (sm b k)))))) args s 0 0 (fun _ => False)) (F0 m 4 ls []) := by
    intro n
    induction n with
    | zero =>
      intro i hi hm
      exfalso; omega
    | succ n ih4 =>
      intro i hi hm ls hl
      refine lv_iload_n hx hb dX0_debt_4 rfl (lv_at hl 2 rfl) ?_
      refine lv_aload_n hx hb dX0_debt_5 rfl (lv_at hl 0 rfl) ?_
      refine va_get (D := D) (ci := 0) (v := .int (nI k)) (C := RX0) (T := TX0) (N := 17) hx hb hts hin hown hK hP 0 rfl rfl 8 (by decide) f89 (fun _ h9 => h9) rfl dX0_debt_6 ?_
      refine nk_icmp_ge (tgt := 27) hx hb (by omega) (by omega) dX0_debt_9 (by decide) (fun c9 => ?_) (fun c9 => ?_)
      · have e9 : i = k := by omega
        rw [e9] at hl
        refine lv_lload_n hx hb dX0_debt_27 rfl (lv_at hl 1 rfl) ?_
        refine nk_rd (W.runS (As := [.long (lN (sm b k))]) (rest := []) ⟨hx, hb, hml, hown, hts⟩ (c_X0_wholeAmount l (sm b k) (by omega)) (va_cwS 1 hts gX0_debt_X0_wholeAmount rfl rfl rfl (by decide +kernel) ⟨Nat.le_of_ble_eq_true rfl, Nat.le_of_ble_eq_true rfl⟩) ⟨nk_P0.blind, fun U hU hW => ⟨rfl, trivial⟩⟩ rfl rfl hl.1 rfl (lv_room (Nat.le_of_ble_eq_true rfl)) dX0_debt_28 ⟨Nat.zero_le _, Nat.zero_le _⟩) ?_
        refine W.eq (g2 := F0 m 31 ls [.long (lN (ceilA (sm b k)))]) rfl ?_
        exact W.lret hx hb hr (fun t ht hW => ⟨rfl, ht⟩) (fun z h => nomatch h) dX0_debt_31
      · refine lv_lload_n hx hb dX0_debt_12 rfl (lv_at hl 1 rfl) ?_
        refine lv_aload_n hx hb dX0_debt_13 rfl (lv_at hl 0 rfl) ?_
        refine va_get (D := D) (ci := 0) (v := .ref h6) (C := RX0) (T := TX0) (N := 17) hx hb hts hin hown hK hP 0 rfl rfl 12 (by decide) f29 (fun _ h9 => h9) rfl dX0_debt_14 ?_
        refine lv_iload_n hx hb dX0_debt_17 rfl (lv_at hl 2 rfl) ?_
        refine nk_lald hx hb hK hP 6 1 rfl rfl (by omega) (by decide) dX0_debt_18 ?_
        refine nk_ladd hx hb dX0_debt_19 ?_
        refine lv_lstore_n (lv' := [(1, .long (lN ((sm b i) + (b i)))), (0, .ref h0), (3, .int (nI i))]) hx hb dX0_debt_20 rfl hl (by decide) rfl (fun ls hl => ?_)
        refine lv_iinc (v := (nI (i + 1))) (lv' := [(3, .int (nI (i + 1))), (1, .long (lN ((sm b i) + (b i)))), (0, .ref h0)]) hx hb dX0_debt_21 hl (k := 2) rfl (nI_1 _) (by decide) rfl (fun ls hl => ?_)
        refine lv_goto (tgt := 4) hx hb dX0_debt_24 (by decide) ?_
        have q9 : ((lN (sm b (i + 1)))) = ((lN ((sm b i) + (b i)))) := rfl
        have hl : lv_has ls 4 [(0, .ref h0), (1, .long (lN (sm b (i + 1)))), (3, .int (nI (i + 1)))] := by
          rw [q9]
          exact lv_sub hl [2, 1, 0] rfl
        exact ih4 (i + 1) (by omega) (by omega) ls hl
  exact loop4 (k + 1) 0 (by omega) (by omega) ls (lv_sub hl [2, 1, 0] rfl)
set_option maxHeartbeats 4000000 in
set_option maxRecDepth 100000 in
theorem c_X0_yearOfLoan (l : Launch) (D : va_G) (h0 h1 h2 h3 h4 h5 h6 h7 h8 h9 : Nat) (cI cJ : ClassId) (d r lc bg w rm k pn : Nat) (fa e1 am dd rt b pd pt tp : Nat → Nat) (q9 : Nat) (hq : bg ≤ q9) (hq2 : q9 ≤ 15000) : Met l yX0_yearOfLoan wsX0_yearOfLoan { frames := 0, cells := 0, slots := 0, locals := 0 } (nk_Pr D (wX h0 h1 h2 h3 h4 h5 h6 h7 h8 h9 cI cJ d r lc bg w rm k pn fa e1 am dd rt b pd pt tp) (tX cI cJ) [.ref h0, .int (nI q9)]) (nk_Rd (some (.int (nI ((q9 - bg) / 365))))) 0 0 (fun _ => False) := by
  refine Met.ofW (cc := cX0_yearOfLoan) (maxL := 2) (ret := (some .int)) (by decide) rfl ?_
  intro p e s m args below meth c s₁ B hml hv
  obtain ⟨hargs, hP, hK⟩ := hv
  have hx := B.exec
  have hb := B.bytes
  have hr := B.returns
  have hts := atoms_spec (ws := wsX0_yearOfLoan) B.pre
  have hown : s.vm.findClass RX0 = some m.cls := findClass_of_methodNamed B.named
  have hlocks := B.notSynchronized
  have hin : ∀ w ∈ wsX00, w ∈ wsX0_yearOfLoan := by decide +kernel
  have f74 := hts (.fieldLink RX0 74 "EquityRelease" "beginDay" "I") (by decide +kernel)
  have hl := lv_entry ([.ref h0, .int (nI q9)]) (n := 2) (Nat.le_of_ble_eq_true rfl)
  have hEe : entryFrame m args 2 = entryFrame m ([.ref h0, .int (nI q9)] : List Value).toArray 2 := by rw [hargs]
  rw [hEe, lg_entry_eq]
  generalize (lg_sl ([.ref h0, .int (nI q9)]) ++ List.replicate (2 - (lg_sl ([.ref h0, .int (nI q9)])).length) Slot.unset).toArray = ls at hl ⊢
  have hl : lv_has ls 2 [(0, .ref h0), (1, .int (nI q9))] := hl
  refine lv_iload_n hx hb dX0_yearOfLoan_0 rfl (lv_at hl 1 rfl) ?_
  refine lv_aload_n hx hb dX0_yearOfLoan_1 rfl (lv_at hl 0 rfl) ?_
  refine va_get (D := D) (ci := 0) (v := .int (nI bg)) (C := RX0) (T := TX0) (N := 17) hx hb hts hin hown hK hP 0 rfl rfl 5 (by decide) f74 (fun _ h9 => h9) rfl dX0_yearOfLoan_2 ?_
  refine nk_isub hx hb (by omega) dX0_yearOfLoan_5 ?_
  refine lv_sipush (v := nI 365) hx hb dX0_yearOfLoan_6 (by decide +kernel) ?_
  refine nk_idiv hx hb (by omega) (by decide) (by decide) dX0_yearOfLoan_9 ?_
  exact W.iret hx hb hr (fun t ht hW => ⟨rfl, ht⟩) (fun z h => nomatch h) dX0_yearOfLoan_10
set_option maxHeartbeats 4000000 in
set_option maxRecDepth 100000 in
theorem c_X0_paidThisYear (l : Launch) (D : va_G) (h0 h1 h2 h3 h4 h5 h6 h7 h8 h9 : Nat) (cI cJ : ClassId) (d r lc bg w rm k pn : Nat) (fa e1 am dd rt b pd pt tp : Nat → Nat)  (hpn : pn ≤ 40) (hbg : bg ≤ d) (hd : d ≤ 15000) (hpd : ∀ j, j < pn → bg ≤ pd j ∧ pd j ≤ 15000) (hpt : ∀ j, j < pn → pt j ≤ 10000000) : Met l yX0_paidThisYear wsX0_paidThisYear { frames := 1, cells := 0, slots := 0, locals := 21 } (nk_Pr D (wX h0 h1 h2 h3 h4 h5 h6 h7 h8 h9 cI cJ d r lc bg w rm k pn fa e1 am dd rt b pd pt tp) (tX cI cJ) [.ref h0]) (nk_Rd (some (.int (nI (pY bg pd pt ((d - bg) / 365) pn))))) 0 0 (fun _ => False) := by
  refine Met.ofW (cc := cX0_paidThisYear) (maxL := 3) (ret := (some .int)) (by decide) rfl ?_
  intro p e s m args below meth c s₁ B hml hv
  obtain ⟨hargs, hP, hK⟩ := hv
  have hx := B.exec
  have hb := B.bytes
  have hr := B.returns
  have hts := atoms_spec (ws := wsX0_paidThisYear) B.pre
  have hown : s.vm.findClass RX0 = some m.cls := findClass_of_methodNamed B.named
  have hlocks := B.notSynchronized
  have hin : ∀ w ∈ wsX00, w ∈ wsX0_paidThisYear := by decide +kernel
  have f98 := hts (.fieldLink RX0 98 "EquityRelease" "paymentCount" "I") (by decide +kernel)
  have f33 := hts (.fieldLink RX0 33 "EquityRelease" "paidDays" "[I") (by decide +kernel)
  have f53 := hts (.fieldLink RX0 53 "EquityRelease" "today" "I") (by decide +kernel)
  have f36 := hts (.fieldLink RX0 36 "EquityRelease" "paidByTenth" "[I") (by decide +kernel)
  have hl := lv_entry ([.ref h0]) (n := 3) (Nat.le_of_ble_eq_true rfl)
  have hEe : entryFrame m args 3 = entryFrame m ([.ref h0] : List Value).toArray 3 := by rw [hargs]
  rw [hEe, lg_entry_eq]
  generalize (lg_sl ([.ref h0]) ++ List.replicate (3 - (lg_sl ([.ref h0])).length) Slot.unset).toArray = ls at hl ⊢
  have hl : lv_has ls 3 [(0, .ref h0)] := hl
  refine lv_iconst (v := nI 0) hx hb dX0_paidThisYear_0 (by decide +kernel) ?_
  refine lv_istore_n (lv' := [(1, .int (nI 0)), (0, .ref h0)]) hx hb dX0_paidThisYear_1 rfl hl (by decide) rfl (fun ls hl => ?_)
  refine lv_iconst (v := nI 0) hx hb dX0_paidThisYear_2 (by decide +kernel) ?_
  refine lv_istore_n (lv' := [(2, .int (nI 0)), (1, .int (nI 0)), (0, .ref h0)]) hx hb dX0_paidThisYear_3 rfl hl (by decide) rfl (fun ls hl => ?_)
  have loop4 : ∀ (n : Nat) (i : Nat), (i ≤ pn) → pn + 1 ≤ i + n → ∀ ls : Array Slot, lv_has ls 3 [(0, .ref h0), (1, .int (nI (pY bg pd pt ((d - bg) / 365) i))), (2, .int (nI i))] → W p l e (headSpec wsX0_paidThisYear { frames := 1, cells := 0, slots := 0, locals := 21 }).room s m args below meth c s.heap [] 0 0 (MQ below (nk_Rd (some (.int (nI (pY bg pd pt ((d - bg) / 365) pn))))) args s 0 0 (fun _ => False)) (F0 m 4 ls []) := by
    intro n
    induction n with
    | zero =>
      intro i hi hm
      exfalso; omega
    | succ n ih4 =>
      intro i hi hm ls hl
      refine lv_iload_n hx hb dX0_paidThisYear_4 rfl (lv_at hl 2 rfl) ?_
      refine lv_aload_n hx hb dX0_paidThisYear_5 rfl (lv_at hl 0 rfl) ?_
      refine va_get (D := D) (ci := 0) (v := .int (nI pn)) (C := RX0) (T := TX0) (N := 17) hx hb hts hin hown hK hP 0 rfl rfl 13 (by decide) f98 (fun _ h9 => h9) rfl dX0_paidThisYear_6 ?_
      refine nk_icmp_ge (tgt := 48) hx hb (by omega) (by omega) dX0_paidThisYear_9 (by decide) (fun c9 => ?_) (fun c9 => ?_)
      · refine lv_iload_n hx hb dX0_paidThisYear_48 rfl (lv_at hl 1 rfl) ?_
        refine nk_topi (y := (nI (pY bg pd pt ((d - bg) / 365) pn))) (by rw [show i = pn from by omega]) ?_
        exact W.iret hx hb hr (fun t ht hW => ⟨rfl, ht⟩) (fun z h => nomatch h) dX0_paidThisYear_49
      · have hp1 := hpd i (by omega)
        refine lv_aload_n hx hb dX0_paidThisYear_12 rfl (lv_at hl 0 rfl) ?_
        refine lv_aload_n hx hb dX0_paidThisYear_13 rfl (lv_at hl 0 rfl) ?_
        refine va_get (D := D) (ci := 0) (v := .ref h7) (C := RX0) (T := TX0) (N := 17) hx hb hts hin hown hK hP 0 rfl rfl 14 (by decide) f33 (fun _ h9 => h9) rfl dX0_paidThisYear_14 ?_
        refine lv_iload_n hx hb dX0_paidThisYear_17 rfl (lv_at hl 2 rfl) ?_
        refine nk_iald hx hb hK hP 7 0 rfl rfl (by omega) (by decide) dX0_paidThisYear_18 ?_
        refine nk_rd (W.runV (As := [.int (nI (pd i))]) (rest := []) ⟨hx, hb, hml, hown, hts⟩ (c_X0_yearOfLoan l D h0 h1 h2 h3 h4 h5 h6 h7 h8 h9 cI cJ d r lc bg w rm k pn fa e1 am dd rt b pd pt tp (pd i) (by omega) (by omega)) (cwV 1 hts gX0_paidThisYear_X0_yearOfLoan rfl rfl rfl (by decide +kernel) ⟨Nat.le_of_ble_eq_true rfl, Nat.le_of_ble_eq_true rfl⟩) ⟨nk_Pr.blind, va_recv hK hP (ci := 0) (q0 := 0) rfl rfl, fun U hU hW => ⟨rfl, by rw [hU]; exact hP, va_K.moved hW.alike hK⟩⟩ rfl rfl hl.1 rfl (lv_room (Nat.le_of_ble_eq_true rfl)) dX0_paidThisYear_19 ⟨Nat.zero_le _, Nat.zero_le _⟩) ?_
        refine W.eq (g2 := F0 m 22 ls [.int (nI (((pd i) - bg) / 365))]) rfl ?_
        refine lv_aload_n hx hb dX0_paidThisYear_22 rfl (lv_at hl 0 rfl) ?_
        refine lv_aload_n hx hb dX0_paidThisYear_23 rfl (lv_at hl 0 rfl) ?_
        refine va_get (D := D) (ci := 0) (v := .int (nI d)) (C := RX0) (T := TX0) (N := 17) hx hb hts hin hown hK hP 0 rfl rfl 0 (by decide) f53 (fun _ h9 => h9) rfl dX0_paidThisYear_24 ?_
        refine nk_rd (W.runV (As := [.int (nI d)]) (rest := [.int (nI (((pd i) - bg) / 365))]) ⟨hx, hb, hml, hown, hts⟩ (c_X0_yearOfLoan l D h0 h1 h2 h3 h4 h5 h6 h7 h8 h9 cI cJ d r lc bg w rm k pn fa e1 am dd rt b pd pt tp d (by omega) (by omega)) (cwV 1 hts gX0_paidThisYear_X0_yearOfLoan rfl rfl rfl (by decide +kernel) ⟨Nat.le_of_ble_eq_true rfl, Nat.le_of_ble_eq_true rfl⟩) ⟨nk_Pr.blind, va_recv hK hP (ci := 0) (q0 := 0) rfl rfl, fun U hU hW => ⟨rfl, by rw [hU]; exact hP, va_K.moved hW.alike hK⟩⟩ rfl rfl hl.1 rfl (lv_room (Nat.le_of_ble_eq_true rfl)) dX0_paidThisYear_27 ⟨Nat.zero_le _, Nat.zero_le _⟩) ?_
        refine W.eq (g2 := F0 m 30 ls [.int (nI ((d - bg) / 365)), .int (nI (((pd i) - bg) / 365))]) rfl ?_
        refine nk_icmp_ne (tgt := 42) hx hb (by omega) (by omega) dX0_paidThisYear_30 (by decide) (fun c30 => ?_) (fun c30 => ?_)
        · refine lv_iinc (v := (nI (i + 1))) (lv' := [(2, .int (nI (i + 1))), (0, .ref h0), (1, .int (nI (pY bg pd pt ((d - bg) / 365) i)))]) hx hb dX0_paidThisYear_42 hl (k := 2) rfl (nI_1 _) (by decide) rfl (fun ls hl => ?_)
          refine lv_goto (tgt := 4) hx hb dX0_paidThisYear_45 (by decide) ?_
          have q9 : ((nI (pY bg pd pt ((d - bg) / 365) (i + 1)))) = ((nI (pY bg pd pt ((d - bg) / 365) i))) := (by rw [pY_s, if_neg c30, Nat.add_zero])
          have hl : lv_has ls 3 [(0, .ref h0), (1, .int (nI (pY bg pd pt ((d - bg) / 365) (i + 1)))), (2, .int (nI (i + 1)))] := by
            rw [q9]
            exact lv_sub hl [1, 2, 0] rfl
          exact ih4 (i + 1) (by omega) (by omega) ls hl
        · refine lv_iload_n hx hb dX0_paidThisYear_33 rfl (lv_at hl 1 rfl) ?_
          refine lv_aload_n hx hb dX0_paidThisYear_34 rfl (lv_at hl 0 rfl) ?_
          refine va_get (D := D) (ci := 0) (v := .ref h8) (C := RX0) (T := TX0) (N := 17) hx hb hts hin hown hK hP 0 rfl rfl 15 (by decide) f36 (fun _ h9 => h9) rfl dX0_paidThisYear_35 ?_
          refine lv_iload_n hx hb dX0_paidThisYear_38 rfl (lv_at hl 2 rfl) ?_
          refine nk_iald hx hb hK hP 8 0 rfl rfl (by omega) (by decide) dX0_paidThisYear_39 ?_
          refine nk_iadd hx hb dX0_paidThisYear_40 ?_
          refine lv_istore_n (lv' := [(1, .int (nI ((pY bg pd pt ((d - bg) / 365) i) + (pt i)))), (0, .ref h0), (2, .int (nI i))]) hx hb dX0_paidThisYear_41 rfl hl (by decide) rfl (fun ls hl => ?_)
          refine lv_iinc (v := (nI (i + 1))) (lv' := [(2, .int (nI (i + 1))), (1, .int (nI ((pY bg pd pt ((d - bg) / 365) i) + (pt i)))), (0, .ref h0)]) hx hb dX0_paidThisYear_42 hl (k := 2) rfl (nI_1 _) (by decide) rfl (fun ls hl => ?_)
          refine lv_goto (tgt := 4) hx hb dX0_paidThisYear_45 (by decide) ?_
          have q9 : ((nI (pY bg pd pt ((d - bg) / 365) (i + 1)))) = ((nI ((pY bg pd pt ((d - bg) / 365) i) + (pt i)))) := (by rw [pY_s, if_pos c30])
          have hl : lv_has ls 3 [(0, .ref h0), (1, .int (nI (pY bg pd pt ((d - bg) / 365) (i + 1)))), (2, .int (nI (i + 1)))] := by
            rw [q9]
            exact lv_sub hl [2, 1, 0] rfl
          exact ih4 (i + 1) (by omega) (by omega) ls hl
  exact loop4 (pn + 1) 0 (by omega) (by omega) ls (lv_sub hl [2, 1, 0] rfl)
set_option maxHeartbeats 4000000 in
set_option maxRecDepth 100000 in
theorem c_X0_allowance (l : Launch) (D : va_G) (h0 h1 h2 h3 h4 h5 h6 h7 h8 h9 : Nat) (cI cJ : ClassId) (d r lc bg w rm k pn : Nat) (fa e1 am dd rt b pd pt tp : Nat → Nat)  (hk : k ≤ 20) (ham : ∀ j, j < k → am j ≤ 10000000) (hpn : pn ≤ 40) (hbg : bg ≤ d) (hd : d ≤ 15000) (hpd : ∀ j, j < pn → bg ≤ pd j ∧ pd j ≤ 15000) (hpt : ∀ j, j < pn → pt j ≤ 10000000) : Met l yX0_allowance wsX0_allowance { frames := 2, cells := 0, slots := 0, locals := 43 } (nk_Pr D (wX h0 h1 h2 h3 h4 h5 h6 h7 h8 h9 cI cJ d r lc bg w rm k pn fa e1 am dd rt b pd pt tp) (tX cI cJ) [.ref h0]) (nk_Rd (some (.int (nI (sm am k / 10 - pY bg pd pt ((d - bg) / 365) pn))))) 0 0 (fun _ => False) := by
  refine Met.ofW (cc := cX0_allowance) (maxL := 3) (ret := (some .int)) (by decide) rfl ?_
  intro p e s m args below meth c s₁ B hml hv
  obtain ⟨hargs, hP, hK⟩ := hv
  have hx := B.exec
  have hb := B.bytes
  have hr := B.returns
  have hts := atoms_spec (ws := wsX0_allowance) B.pre
  have hown : s.vm.findClass RX0 = some m.cls := findClass_of_methodNamed B.named
  have hlocks := B.notSynchronized
  have hin : ∀ w ∈ wsX00, w ∈ wsX0_allowance := by decide +kernel
  have f89 := hts (.fieldLink RX0 89 "EquityRelease" "drawingCount" "I") (by decide +kernel)
  have f20 := hts (.fieldLink RX0 20 "EquityRelease" "drawnAmounts" "[I") (by decide +kernel)
  have hl := lv_entry ([.ref h0]) (n := 3) (Nat.le_of_ble_eq_true rfl)
  have hEe : entryFrame m args 3 = entryFrame m ([.ref h0] : List Value).toArray 3 := by rw [hargs]
  rw [hEe, lg_entry_eq]
  generalize (lg_sl ([.ref h0]) ++ List.replicate (3 - (lg_sl ([.ref h0])).length) Slot.unset).toArray = ls at hl ⊢
  have hl : lv_has ls 3 [(0, .ref h0)] := hl
  refine lv_iconst (v := nI 0) hx hb dX0_allowance_0 (by decide +kernel) ?_
  refine lv_istore_n (lv' := [(1, .int (nI 0)), (0, .ref h0)]) hx hb dX0_allowance_1 rfl hl (by decide) rfl (fun ls hl => ?_)
  refine lv_iconst (v := nI 0) hx hb dX0_allowance_2 (by decide +kernel) ?_
  refine lv_istore_n (lv' := [(2, .int (nI 0)), (1, .int (nI 0)), (0, .ref h0)]) hx hb dX0_allowance_3 rfl hl (by decide) rfl (fun ls hl => ?_)
  have loop4 : ∀ (n : Nat) (i : Nat), (i ≤ k) → k + 1 ≤ i + n → ∀ ls : Array Slot, lv_has ls 3 [(0, .ref h0), (1, .int (nI (sm am i))), (2, .int (nI i))] → W p l e (headSpec wsX0_allowance { frames := 2, cells := 0, slots := 0, locals := 43 }).room s m args below meth c s.heap [] 0 0 (MQ below (nk_Rd (some (.int (nI (sm am k / 10 - pY bg pd pt ((d - bg) / 365) pn))))) args s 0 0 (fun _ => False)) (F0 m 4 ls []) := by
    intro n
    induction n with
    | zero =>
      intro i hi hm
      exfalso; omega
    | succ n ih4 =>
      intro i hi hm ls hl
      refine lv_iload_n hx hb dX0_allowance_4 rfl (lv_at hl 2 rfl) ?_
      refine lv_aload_n hx hb dX0_allowance_5 rfl (lv_at hl 0 rfl) ?_
      refine va_get (D := D) (ci := 0) (v := .int (nI k)) (C := RX0) (T := TX0) (N := 17) hx hb hts hin hown hK hP 0 rfl rfl 8 (by decide) f89 (fun _ h9 => h9) rfl dX0_allowance_6 ?_
      refine nk_icmp_ge (tgt := 27) hx hb (by omega) (by omega) dX0_allowance_9 (by decide) (fun c9 => ?_) (fun c9 => ?_)
      · have e9 : i = k := by omega
        rw [e9] at hl
        have hs1 := sm_le k ham
        have hs2 := pY_le (bg := bg) (y := (d - bg) / 365) (pd := pd) pn hpt
        have hs3 : k * 10000000 ≤ 20 * 10000000 := Nat.mul_le_mul_right _ hk
        have hs4 : pn * 10000000 ≤ 40 * 10000000 := Nat.mul_le_mul_right _ hpn
        refine lv_iconst (v := nI 0) hx hb dX0_allowance_27 (by decide +kernel) ?_
        refine lv_iload_n hx hb dX0_allowance_28 rfl (lv_at hl 1 rfl) ?_
        refine lv_bipush (v := nI 10) hx hb dX0_allowance_29 (by decide +kernel) ?_
        refine nk_idiv hx hb (by omega) (by decide) (by decide) dX0_allowance_31 ?_
        refine lv_aload_n hx hb dX0_allowance_32 rfl (lv_at hl 0 rfl) ?_
        refine nk_rd (W.runV (As := []) (rest := [.int (nI ((sm am k) / 10)), .int (nI 0)]) ⟨hx, hb, hml, hown, hts⟩ (c_X0_paidThisYear l D h0 h1 h2 h3 h4 h5 h6 h7 h8 h9 cI cJ d r lc bg w rm k pn fa e1 am dd rt b pd pt tp hpn hbg hd hpd hpt) (cwV 0 hts gX0_allowance_X0_paidThisYear rfl rfl rfl (by decide +kernel) ⟨Nat.le_of_ble_eq_true rfl, Nat.le_of_ble_eq_true rfl⟩) ⟨nk_Pr.blind, va_recv hK hP (ci := 0) (q0 := 0) rfl rfl, fun U hU hW => ⟨rfl, by rw [hU]; exact hP, va_K.moved hW.alike hK⟩⟩ rfl rfl hl.1 rfl (lv_room (Nat.le_of_ble_eq_true rfl)) dX0_allowance_33 ⟨Nat.zero_le _, Nat.zero_le _⟩) ?_
        refine W.eq (g2 := F0 m 36 ls [.int (nI (pY bg pd pt ((d - bg) / 365) pn)), .int (nI ((sm am k) / 10)), .int (nI 0)]) rfl ?_
        refine lv_isub hx hb dX0_allowance_36  ?_
        refine va_mmax hx hb (hml.trans hl.1.symm) hown (hts (.methodLink RX0 163 Lib.Math.max.name) (by decide +kernel)) (hts (.static Lib.Math.max.name) (by decide +kernel)) (hts (.initialized "java/lang/Math") (by decide +kernel)) (hts (.code Lib.Math.max.name Lib.Math.max.code 2 (some .int)) (by decide +kernel)) (Nat.le_of_ble_eq_true rfl) (Nat.le_of_ble_eq_true rfl) (Nat.zero_le _) (Nat.zero_le _) dX0_allowance_37 ?_
        refine nk_topi (y := (nI (sm am k / 10 - pY bg pd pt ((d - bg) / 365) pn))) (nk_max0 (by omega) (by omega)) ?_
        exact W.iret hx hb hr (fun t ht hW => ⟨rfl, ht⟩) (fun z h => nomatch h) dX0_allowance_40
      · refine lv_iload_n hx hb dX0_allowance_12 rfl (lv_at hl 1 rfl) ?_
        refine lv_aload_n hx hb dX0_allowance_13 rfl (lv_at hl 0 rfl) ?_
        refine va_get (D := D) (ci := 0) (v := .ref h3) (C := RX0) (T := TX0) (N := 17) hx hb hts hin hown hK hP 0 rfl rfl 9 (by decide) f20 (fun _ h9 => h9) rfl dX0_allowance_14 ?_
        refine lv_iload_n hx hb dX0_allowance_17 rfl (lv_at hl 2 rfl) ?_
        refine nk_iald hx hb hK hP 3 0 rfl rfl (by omega) (by decide) dX0_allowance_18 ?_
        refine nk_iadd hx hb dX0_allowance_19 ?_
        refine lv_istore_n (lv' := [(1, .int (nI ((sm am i) + (am i)))), (0, .ref h0), (2, .int (nI i))]) hx hb dX0_allowance_20 rfl hl (by decide) rfl (fun ls hl => ?_)
        refine lv_iinc (v := (nI (i + 1))) (lv' := [(2, .int (nI (i + 1))), (1, .int (nI ((sm am i) + (am i)))), (0, .ref h0)]) hx hb dX0_allowance_21 hl (k := 2) rfl (nI_1 _) (by decide) rfl (fun ls hl => ?_)
        refine lv_goto (tgt := 4) hx hb dX0_allowance_24 (by decide) ?_
        have q9 : ((nI (sm am (i + 1)))) = ((nI ((sm am i) + (am i)))) := rfl
        have hl : lv_has ls 3 [(0, .ref h0), (1, .int (nI (sm am (i + 1)))), (2, .int (nI (i + 1)))] := by
          rw [q9]
          exact lv_sub hl [2, 1, 0] rfl
        exact ih4 (i + 1) (by omega) (by omega) ls hl
  exact loop4 (k + 1) 0 (by omega) (by omega) ls (lv_sub hl [2, 1, 0] rfl)
set_option maxHeartbeats 4000000 in
set_option maxRecDepth 100000 in
theorem c_X0_isWaived (l : Launch) (D : va_G) (h0 h1 h2 h3 h4 h5 h6 h7 h8 h9 : Nat) (cI cJ : ClassId) (d r lc bg w rm k pn : Nat) (fa e1 am dd rt b pd pt tp : Nat → Nat)  (hlc : lc ≤ 2) (he : ∀ j, j < lc → e1 j ≤ 15001) (hed : ∀ j, j < lc → e1 j ≤ d + 1) (hd : d ≤ 15000) : Met l yX0_isWaived wsX0_isWaived { frames := 2, cells := 0, slots := 0, locals := 46 } (nk_Pr D (wX h0 h1 h2 h3 h4 h5 h6 h7 h8 h9 cI cJ d r lc bg w rm k pn fa e1 am dd rt b pd pt tp) (tX cI cJ) [.ref h0]) (nk_Rd (some (.int (nI (if 0 < mxE e1 lc ∧ d - (mxE e1 lc - 1) ≤ 1095 then 1 else 0))))) 0 0 (fun _ => False) := by
  refine Met.ofW (cc := cX0_isWaived) (maxL := 2) (ret := (some .boolean)) (by decide) rfl ?_
  intro p e s m args below meth c s₁ B hml hv
  obtain ⟨hargs, hP, hK⟩ := hv
  have hx := B.exec
  have hb := B.bytes
  have hr := B.returns
  have hts := atoms_spec (ws := wsX0_isWaived) B.pre
  have hown : s.vm.findClass RX0 = some m.cls := findClass_of_methodNamed B.named
  have hlocks := B.notSynchronized
  have hin : ∀ w ∈ wsX00, w ∈ wsX0_isWaived := by decide +kernel
  have f53 := hts (.fieldLink RX0 53 "EquityRelease" "today" "I") (by decide +kernel)
  have hl := lv_entry ([.ref h0]) (n := 2) (Nat.le_of_ble_eq_true rfl)
  have hEe : entryFrame m args 2 = entryFrame m ([.ref h0] : List Value).toArray 2 := by rw [hargs]
  rw [hEe, lg_entry_eq]
  generalize (lg_sl ([.ref h0]) ++ List.replicate (2 - (lg_sl ([.ref h0])).length) Slot.unset).toArray = ls at hl ⊢
  have hl : lv_has ls 2 [(0, .ref h0)] := hl
  refine lv_aload_n hx hb dX0_isWaived_0 rfl (lv_at hl 0 rfl) ?_
  refine nk_rd (W.runV (As := []) (rest := []) ⟨hx, hb, hml, hown, hts⟩ (c_X0_lastEndDay l D h0 h1 h2 h3 h4 h5 h6 h7 h8 h9 cI cJ d r lc bg w rm k pn fa e1 am dd rt b pd pt tp hlc he) (cwV 0 hts gX0_isWaived_X0_lastEndDay rfl rfl rfl (by decide +kernel) ⟨Nat.le_of_ble_eq_true rfl, Nat.le_of_ble_eq_true rfl⟩) ⟨nk_Pr.blind, va_recv hK hP (ci := 0) (q0 := 0) rfl rfl, fun U hU hW => ⟨rfl, by rw [hU]; exact hP, va_K.moved hW.alike hK⟩⟩ rfl rfl hl.1 rfl (lv_room (Nat.le_of_ble_eq_true rfl)) dX0_isWaived_1 ⟨Nat.zero_le _, Nat.zero_le _⟩) ?_
  refine W.eq (g2 := F0 m 4 ls [.int (nI (mxE e1 lc) - 1)]) rfl ?_
  refine lv_istore_n (lv' := [(1, .int (nI (mxE e1 lc) - 1)), (0, .ref h0)]) hx hb dX0_isWaived_4 rfl hl (by decide) rfl (fun ls hl => ?_)
  have hm1 := mxE_le (f := e1) (M := d + 1) lc hed
  refine lv_iload_n hx hb dX0_isWaived_5 rfl (lv_at hl 0 rfl) ?_
  refine lv_iconst (v := -1) hx hb dX0_isWaived_6 (by decide) ?_
  refine nk_ecmp_eq (tgt := 26) hx hb (by omega) dX0_isWaived_7 (by decide) (fun c7 => ?_) (fun c7 => ?_)
  · refine lv_iconst (v := nI 0) hx hb dX0_isWaived_26 (by decide +kernel) ?_
    exact W.zret (ty := .boolean) hx hb hr rfl (fun t ht hW => ⟨by rw [if_neg (by omega)], ht⟩) (fun z h => nomatch h) dX0_isWaived_27
  · refine lv_aload_n hx hb dX0_isWaived_10 rfl (lv_at hl 1 rfl) ?_
    refine va_get (D := D) (ci := 0) (v := .int (nI d)) (C := RX0) (T := TX0) (N := 17) hx hb hts hin hown hK hP 0 rfl rfl 0 (by decide) f53 (fun _ h9 => h9) rfl dX0_isWaived_11 ?_
    refine lv_iload_n hx hb dX0_isWaived_14 rfl (lv_at hl 0 rfl) ?_
    refine nk_topi (y := (nI (mxE e1 lc - 1))) (nk_e1 c7) ?_
    refine nk_isub hx hb (by omega) dX0_isWaived_15 ?_
    refine lv_sipush (v := nI 1095) hx hb dX0_isWaived_16 (by decide +kernel) ?_
    refine nk_icmp_gt (tgt := 26) hx hb (by omega) (by omega) dX0_isWaived_19 (by decide) (fun c19 => ?_) (fun c19 => ?_)
    · refine lv_iconst (v := nI 0) hx hb dX0_isWaived_26 (by decide +kernel) ?_
      exact W.zret (ty := .boolean) hx hb hr rfl (fun t ht hW => ⟨by rw [if_neg (by omega)], ht⟩) (fun z h => nomatch h) dX0_isWaived_27
    · refine lv_iconst (v := nI 1) hx hb dX0_isWaived_22 (by decide +kernel) ?_
      refine lv_goto (tgt := 27) hx hb dX0_isWaived_23 (by decide) ?_
      exact W.zret (ty := .boolean) hx hb hr rfl (fun t ht hW => ⟨by rw [if_pos ⟨c7, c19⟩], ht⟩) (fun z h => nomatch h) dX0_isWaived_27
set_option maxHeartbeats 4000000 in
set_option maxRecDepth 100000 in
theorem c_X0_chargeFor (l : Launch) (D : va_G) (h0 h1 h2 h3 h4 h5 h6 h7 h8 h9 : Nat) (cI cJ : ClassId) (d r lc bg w rm k pn : Nat) (fa e1 am dd rt b pd pt tp : Nat → Nat) (a9 : Nat) (ha9 : a9 ≤ 10000000) (hlc : lc ≤ 2) (he : ∀ j, j < lc → e1 j ≤ 15001) (hed : ∀ j, j < lc → e1 j ≤ d + 1) (hk : k ≤ 20) (ham : ∀ j, j < k → am j ≤ 10000000) (hpn : pn ≤ 40) (hbg : bg ≤ d) (hd : d ≤ 15000) (hpd : ∀ j, j < pn → bg ≤ pd j ∧ pd j ≤ 15000) (hpt : ∀ j, j < pn → pt j ≤ 10000000) : Met l yX0_chargeFor wsX0_chargeFor { frames := 3, cells := 0, slots := 0, locals := 67 } (nk_Pr D (wX h0 h1 h2 h3 h4 h5 h6 h7 h8 h9 cI cJ d r lc bg w rm k pn fa e1 am dd rt b pd pt tp) (tX cI cJ) [.ref h0, .int (nI a9)]) (nk_Rd (some (.int (nI (chg (mxE e1 lc) d ((d - bg) / 365) (sm am k) (pY bg pd pt ((d - bg) / 365) pn) a9))))) 0 0 (fun _ => False) := by
  refine Met.ofW (cc := cX0_chargeFor) (maxL := 4) (ret := (some .int)) (by decide) rfl ?_
  intro p e s m args below meth c s₁ B hml hv
  obtain ⟨hargs, hP, hK⟩ := hv
  have hx := B.exec
  have hb := B.bytes
  have hr := B.returns
  have hts := atoms_spec (ws := wsX0_chargeFor) B.pre
  have hown : s.vm.findClass RX0 = some m.cls := findClass_of_methodNamed B.named
  have hlocks := B.notSynchronized
  have hin : ∀ w ∈ wsX00, w ∈ wsX0_chargeFor := by decide +kernel
  have f53 := hts (.fieldLink RX0 53 "EquityRelease" "today" "I") (by decide +kernel)
  have hl := lv_entry ([.ref h0, .int (nI a9)]) (n := 4) (Nat.le_of_ble_eq_true rfl)
  have hEe : entryFrame m args 4 = entryFrame m ([.ref h0, .int (nI a9)] : List Value).toArray 4 := by rw [hargs]
  rw [hEe, lg_entry_eq]
  generalize (lg_sl ([.ref h0, .int (nI a9)]) ++ List.replicate (4 - (lg_sl ([.ref h0, .int (nI a9)])).length) Slot.unset).toArray = ls at hl ⊢
  have hl : lv_has ls 4 [(0, .ref h0), (1, .int (nI a9))] := hl
  refine lv_aload_n hx hb dX0_chargeFor_0 rfl (lv_at hl 0 rfl) ?_
  refine nk_rd (W.runV (As := []) (rest := []) ⟨hx, hb, hml, hown, hts⟩ (c_X0_isWaived l D h0 h1 h2 h3 h4 h5 h6 h7 h8 h9 cI cJ d r lc bg w rm k pn fa e1 am dd rt b pd pt tp hlc he hed hd) (cwV 0 hts gX0_chargeFor_X0_isWaived rfl rfl rfl (by decide +kernel) ⟨Nat.le_of_ble_eq_true rfl, Nat.le_of_ble_eq_true rfl⟩) ⟨nk_Pr.blind, va_recv hK hP (ci := 0) (q0 := 0) rfl rfl, fun U hU hW => ⟨rfl, by rw [hU]; exact hP, va_K.moved hW.alike hK⟩⟩ rfl rfl hl.1 rfl (lv_room (Nat.le_of_ble_eq_true rfl)) dX0_chargeFor_1 ⟨Nat.zero_le _, Nat.zero_le _⟩) ?_
  refine W.eq (g2 := F0 m 4 ls [.int (nI (if 0 < mxE e1 lc ∧ d - (mxE e1 lc - 1) ≤ 1095 then 1 else 0))]) rfl ?_
  refine nk_bif_eq (tgt := 9) hx hb dX0_chargeFor_4 (by decide) (fun c4 => ?_) (fun c4 => ?_)
  · have hs1 := sm_le k ham
    have hs3 : k * 10000000 ≤ 20 * 10000000 := Nat.mul_le_mul_right _ hk
    refine lv_iconst (v := nI 0) hx hb dX0_chargeFor_9 (by decide +kernel) ?_
    refine lv_iload_n hx hb dX0_chargeFor_10 rfl (lv_at hl 1 rfl) ?_
    refine lv_aload_n hx hb dX0_chargeFor_11 rfl (lv_at hl 0 rfl) ?_
    refine nk_rd (W.runV (As := []) (rest := [.int (nI a9), .int (nI 0)]) ⟨hx, hb, hml, hown, hts⟩ (c_X0_allowance l D h0 h1 h2 h3 h4 h5 h6 h7 h8 h9 cI cJ d r lc bg w rm k pn fa e1 am dd rt b pd pt tp hk ham hpn hbg hd hpd hpt) (cwV 0 hts gX0_chargeFor_X0_allowance rfl rfl rfl (by decide +kernel) ⟨Nat.le_of_ble_eq_true rfl, Nat.le_of_ble_eq_true rfl⟩) ⟨nk_Pr.blind, va_recv hK hP (ci := 0) (q0 := 0) rfl rfl, fun U hU hW => ⟨rfl, by rw [hU]; exact hP, va_K.moved hW.alike hK⟩⟩ rfl rfl hl.1 rfl (lv_room (Nat.le_of_ble_eq_true rfl)) dX0_chargeFor_12 ⟨Nat.zero_le _, Nat.zero_le _⟩) ?_
    refine W.eq (g2 := F0 m 15 ls [.int (nI (sm am k / 10 - pY bg pd pt ((d - bg) / 365) pn)), .int (nI a9), .int (nI 0)]) rfl ?_
    refine lv_isub hx hb dX0_chargeFor_15  ?_
    refine va_mmax hx hb (hml.trans hl.1.symm) hown (hts (.methodLink RX0 163 Lib.Math.max.name) (by decide +kernel)) (hts (.static Lib.Math.max.name) (by decide +kernel)) (hts (.initialized "java/lang/Math") (by decide +kernel)) (hts (.code Lib.Math.max.name Lib.Math.max.code 2 (some .int)) (by decide +kernel)) (Nat.le_of_ble_eq_true rfl) (Nat.le_of_ble_eq_true rfl) (Nat.zero_le _) (Nat.zero_le _) dX0_chargeFor_16 ?_
    refine nk_topi (y := (nI (a9 - (sm am k / 10 - pY bg pd pt ((d - bg) / 365) pn)))) (nk_max0 (by omega) (by omega)) ?_
    refine lv_istore_n (lv' := [(2, .int (nI (a9 - (sm am k / 10 - pY bg pd pt ((d - bg) / 365) pn)))), (0, .ref h0), (1, .int (nI a9))]) hx hb dX0_chargeFor_19 rfl hl (by decide) rfl (fun ls hl => ?_)
    refine lv_iconst (v := nI 0) hx hb dX0_chargeFor_20 (by decide +kernel) ?_
    refine lv_bipush (v := nI 10) hx hb dX0_chargeFor_21 (by decide +kernel) ?_
    refine lv_aload_n hx hb dX0_chargeFor_23 rfl (lv_at hl 1 rfl) ?_
    refine lv_aload_n hx hb dX0_chargeFor_24 rfl (lv_at hl 1 rfl) ?_
    refine va_get (D := D) (ci := 0) (v := .int (nI d)) (C := RX0) (T := TX0) (N := 17) hx hb hts hin hown hK hP 0 rfl rfl 0 (by decide) f53 (fun _ h9 => h9) rfl dX0_chargeFor_25 ?_
    refine nk_rd (W.runV (As := [.int (nI d)]) (rest := [.int (nI 10), .int (nI 0)]) ⟨hx, hb, hml, hown, hts⟩ (c_X0_yearOfLoan l D h0 h1 h2 h3 h4 h5 h6 h7 h8 h9 cI cJ d r lc bg w rm k pn fa e1 am dd rt b pd pt tp d (by omega) (by omega)) (cwV 1 hts gX0_chargeFor_X0_yearOfLoan rfl rfl rfl (by decide +kernel) ⟨Nat.le_of_ble_eq_true rfl, Nat.le_of_ble_eq_true rfl⟩) ⟨nk_Pr.blind, va_recv hK hP (ci := 0) (q0 := 0) rfl rfl, fun U hU hW => ⟨rfl, by rw [hU]; exact hP, va_K.moved hW.alike hK⟩⟩ rfl rfl hl.1 rfl (lv_room (Nat.le_of_ble_eq_true rfl)) dX0_chargeFor_28 ⟨Nat.zero_le _, Nat.zero_le _⟩) ?_
    refine W.eq (g2 := F0 m 31 ls [.int (nI ((d - bg) / 365)), .int (nI 10), .int (nI 0)]) rfl ?_
    refine lv_isub hx hb dX0_chargeFor_31  ?_
    refine va_mmax hx hb (hml.trans hl.1.symm) hown (hts (.methodLink RX0 163 Lib.Math.max.name) (by decide +kernel)) (hts (.static Lib.Math.max.name) (by decide +kernel)) (hts (.initialized "java/lang/Math") (by decide +kernel)) (hts (.code Lib.Math.max.name Lib.Math.max.code 2 (some .int)) (by decide +kernel)) (Nat.le_of_ble_eq_true rfl) (Nat.le_of_ble_eq_true rfl) (Nat.zero_le _) (Nat.zero_le _) dX0_chargeFor_32 ?_
    refine nk_topi (y := (nI (10 - (d - bg) / 365))) (nk_max0 (by omega) (by omega)) ?_
    refine lv_istore_n (lv' := [(3, .int (nI (10 - (d - bg) / 365))), (2, .int (nI (a9 - (sm am k / 10 - pY bg pd pt ((d - bg) / 365) pn)))), (0, .ref h0), (1, .int (nI a9))]) hx hb dX0_chargeFor_35 rfl hl (by decide) rfl (fun ls hl => ?_)
    refine lv_iload_n hx hb dX0_chargeFor_36 rfl (lv_at hl 1 rfl) ?_
    refine lv_iload_n hx hb dX0_chargeFor_37 rfl (lv_at hl 0 rfl) ?_
    refine nk_imul hx hb dX0_chargeFor_38 ?_
    have h9 : (a9 - (sm am k / 10 - pY bg pd pt ((d - bg) / 365) pn)) * (10 - (d - bg) / 365) ≤ 10000000 * 10 := Nat.mul_le_mul (by omega) (by omega)
    refine lv_bipush (v := nI 100) hx hb dX0_chargeFor_39 (by decide +kernel) ?_
    refine nk_idiv hx hb (by omega) (by decide) (by decide) dX0_chargeFor_41 ?_
    refine nk_topi (y := (nI (chg (mxE e1 lc) d ((d - bg) / 365) (sm am k) (pY bg pd pt ((d - bg) / 365) pn) a9))) (by unfold chg; rw [if_neg c4]) ?_
    exact W.iret hx hb hr (fun t ht hW => ⟨rfl, ht⟩) (fun z h => nomatch h) dX0_chargeFor_42
  · refine lv_iconst (v := nI 0) hx hb dX0_chargeFor_7 (by decide +kernel) ?_
    refine nk_topi (y := (nI (chg (mxE e1 lc) d ((d - bg) / 365) (sm am k) (pY bg pd pt ((d - bg) / 365) pn) a9))) (by unfold chg; rw [if_pos c4]) ?_
    exact W.iret hx hb hr (fun t ht hW => ⟨rfl, ht⟩) (fun z h => nomatch h) dX0_chargeFor_8
set_option maxHeartbeats 4000000 in
set_option maxRecDepth 100000 in
theorem c_X0_rolledUp (l : Launch) (x9 r9 n9 : Nat) (hr9 : r9 ≤ 2000) (hn9 : n9 ≤ 15000) (hx9 : ∀ j, j ≤ n9 → roll r9 x9 j * r9 < 9223372036854775808) : Met l yX0_rolledUp wsX0_rolledUp { frames := 0, cells := 0, slots := 0, locals := 0 } (nk_P0 [.long (lN x9), .int (nI r9), .int (nI n9)]) (nk_Rd (some (.long (lN (roll r9 x9 n9))))) 0 0 (fun _ => False) := by
  refine Met.ofW (cc := cX0_rolledUp) (maxL := 9) (ret := (some .long)) (by decide) rfl ?_
  intro p e s m args below meth c s₁ B hml hv
  obtain ⟨hargs, -⟩ := hv
  have hx := B.exec
  have hb := B.bytes
  have hr := B.returns
  have hts := atoms_spec (ws := wsX0_rolledUp) B.pre
  have hown : s.vm.findClass RX0 = some m.cls := findClass_of_methodNamed B.named
  have hlocks := B.notSynchronized
  have k174 : (Cond.constantLong RX0 174 (lN 3650000)).before args s = true := by
    rw [show (lN 3650000 : Int64) = 3650000 from by decide +kernel]
    exact hts (.constantLong RX0 174 (3650000)) (by decide +kernel)
  have hl := lv_entry ([.long (lN x9), .int (nI r9), .int (nI n9)]) (n := 9) (Nat.le_of_ble_eq_true rfl)
  have hEe : entryFrame m args 9 = entryFrame m ([.long (lN x9), .int (nI r9), .int (nI n9)] : List Value).toArray 9 := by rw [hargs]
  rw [hEe, lg_entry_eq]
  generalize (lg_sl ([.long (lN x9), .int (nI r9), .int (nI n9)]) ++ List.replicate (9 - (lg_sl ([.long (lN x9), .int (nI r9), .int (nI n9)])).length) Slot.unset).toArray = ls at hl ⊢
  have hl : lv_has ls 9 [(0, .long (lN x9)), (2, .int (nI r9)), (3, .int (nI n9))] := hl
  refine lv_lload_n hx hb dX0_rolledUp_0 rfl (lv_at hl 0 rfl) ?_
  refine lv_lstore (lv' := [(4, .long (lN x9)), (0, .long (lN x9)), (2, .int (nI r9)), (3, .int (nI n9))]) hx hb dX0_rolledUp_1 hl (by decide) rfl (fun ls hl => ?_)
  refine lv_iconst (v := nI 0) hx hb dX0_rolledUp_3 (by decide +kernel) ?_
  refine lv_istore (lv' := [(6, .int (nI 0)), (4, .long (lN x9)), (0, .long (lN x9)), (2, .int (nI r9)), (3, .int (nI n9))]) hx hb dX0_rolledUp_4 hl (by decide) rfl (fun ls hl => ?_)
  have loop6 : ∀ (n : Nat) (i : Nat), (i ≤ n9) → n9 + 1 ≤ i + n → ∀ ls : Array Slot, lv_has ls 9 [(0, .long (lN x9)), (2, .int (nI r9)), (3, .int (nI n9)), (4, .long (lN (roll r9 x9 i))), (6, .int (nI i))] → W p l e (headSpec wsX0_rolledUp { frames := 0, cells := 0, slots := 0, locals := 0 }).room s m args below meth c s.heap [] 0 0 (MQ below (nk_Rd (some (.long (lN (roll r9 x9 n9))))) args s 0 0 (fun _ => False)) (F0 m 6 ls []) := by
    intro n
    induction n with
    | zero =>
      intro i hi hm
      exfalso; omega
    | succ n ih6 =>
      intro i hi hm ls hl
      refine lv_iload hx hb dX0_rolledUp_6 (lv_at hl 4 rfl) ?_
      refine lv_iload_n hx hb dX0_rolledUp_8 rfl (lv_at hl 2 rfl) ?_
      refine nk_icmp_ge (tgt := 46) hx hb (by omega) (by omega) dX0_rolledUp_9 (by decide) (fun c9 => ?_) (fun c9 => ?_)
      · refine lv_lload hx hb dX0_rolledUp_46 (lv_at hl 3 rfl) ?_
        refine nk_topl (y := (lN (roll r9 x9 n9))) (by rw [show i = n9 from by omega]) ?_
        exact W.lret hx hb hr (fun t ht hW => ⟨rfl, ht⟩) (fun z h => nomatch h) dX0_rolledUp_48
      · have hx1 := hx9 i hi
        refine lv_lload hx hb dX0_rolledUp_12 (lv_at hl 3 rfl) ?_
        refine lv_iload_n hx hb dX0_rolledUp_14 rfl (lv_at hl 1 rfl) ?_
        refine nk_i2l hx hb (by omega) dX0_rolledUp_15 ?_
        refine nk_lmul hx hb dX0_rolledUp_16 ?_
        refine lv_ldc2 (v := lN 3650000) hx hb hown k174 dX0_rolledUp_17 ?_
        refine nk_ldiv hx hb (by omega) (by decide) (by decide) dX0_rolledUp_20 ?_
        refine lv_lstore (lv' := [(7, .long (lN (((roll r9 x9 i) * r9) / 3650000))), (0, .long (lN x9)), (2, .int (nI r9)), (3, .int (nI n9)), (4, .long (lN (roll r9 x9 i))), (6, .int (nI i))]) hx hb dX0_rolledUp_21 hl (by decide) rfl (fun ls hl => ?_)
        refine lv_lload hx hb dX0_rolledUp_23 (lv_at hl 0 rfl) ?_
        refine lv_lconst (v := lN 0) hx hb dX0_rolledUp_25 (by decide +kernel) ?_
        refine nk_lcmp_ne (tgt := 33) hx hb (by omega) (by omega) dX0_rolledUp_26 dX0_rolledUp_27 (by decide) (fun c26 => ?_) (fun c26 => ?_)
        · refine lv_lload hx hb dX0_rolledUp_33 (lv_at hl 4 rfl) ?_
          refine lv_lload hx hb dX0_rolledUp_35 (lv_at hl 0 rfl) ?_
          refine nk_ladd hx hb dX0_rolledUp_37 ?_
          refine lv_lstore (lv' := [(4, .long (lN ((roll r9 x9 i) + (((roll r9 x9 i) * r9) / 3650000)))), (7, .long (lN (((roll r9 x9 i) * r9) / 3650000))), (0, .long (lN x9)), (2, .int (nI r9)), (3, .int (nI n9)), (6, .int (nI i))]) hx hb dX0_rolledUp_38 hl (by decide) rfl (fun ls hl => ?_)
          refine lv_iinc (v := (nI (i + 1))) (lv' := [(6, .int (nI (i + 1))), (4, .long (lN ((roll r9 x9 i) + (((roll r9 x9 i) * r9) / 3650000)))), (7, .long (lN (((roll r9 x9 i) * r9) / 3650000))), (0, .long (lN x9)), (2, .int (nI r9)), (3, .int (nI n9))]) hx hb dX0_rolledUp_40 hl (k := 5) rfl (nI_1 _) (by decide) rfl (fun ls hl => ?_)
          refine lv_goto (tgt := 6) hx hb dX0_rolledUp_43 (by decide) ?_
          have q9 : ((lN (roll r9 x9 (i + 1)))) = ((lN ((roll r9 x9 i) + (((roll r9 x9 i) * r9) / 3650000)))) := rfl
          have hl : lv_has ls 9 [(0, .long (lN x9)), (2, .int (nI r9)), (3, .int (nI n9)), (4, .long (lN (roll r9 x9 (i + 1)))), (6, .int (nI (i + 1)))] := by
            rw [q9]
            exact lv_sub hl [3, 4, 5, 1, 0] rfl
          exact ih6 (i + 1) (by omega) (by omega) ls hl
        · refine lv_goto (tgt := 46) hx hb dX0_rolledUp_30 (by decide) ?_
          refine lv_lload hx hb dX0_rolledUp_46 (lv_at hl 4 rfl) ?_
          refine nk_topl (y := (lN (roll r9 x9 n9))) (by rw [show n9 = i + (n9 - i) from by omega, roll_stop c26]) ?_
          exact W.lret hx hb hr (fun t ht hW => ⟨rfl, ht⟩) (fun z h => nomatch h) dX0_rolledUp_48
  exact loop6 (n9 + 1) 0 (by omega) (by omega) ls (lv_sub hl [2, 3, 4, 1, 0] rfl)
set_option maxHeartbeats 4000000 in
set_option maxRecDepth 100000 in
theorem c_X0_balanceAnew (l : Launch) (D : va_G) (h0 h1 h2 h3 h4 h5 h6 h7 h8 h9 : Nat) (cI cJ : ClassId) (d r lc bg w rm k pn : Nat) (fa e1 am dd rt b pd pt tp : Nat → Nat) (q9 : Nat) (hpn : pn ≤ 40) (hq : q9 < 20) (hlc : lc ≤ 2) (he : ∀ j, j < lc → e1 j ≤ 15001) (hd : d ≤ 15000) (ham : am q9 ≤ 10000000) (hrt : rt q9 ≤ 2000) (hdd : dd q9 ≤ 15000) (hpd : ∀ j, j < pn → pd j ≤ 15000) (hh1 : ∀ j, j < pn → 0 < tp (q9 * 40 + j) → (hX am dd rt pd tp q9 j).2 ≤ pd j ∧ tp (q9 * 40 + j) ≤ roll (rt q9) (hX am dd rt pd tp q9 j).1 (pd j - (hX am dd rt pd tp q9 j).2)) (hh2 : (hX am dd rt pd tp q9 pn).2 ≤ dyE d lc e1) (hh3 : ∀ j, j ≤ pn → (hX am dd rt pd tp q9 j).2 ≤ 15000 ∧ ∀ i, (hX am dd rt pd tp q9 j).2 + i ≤ 15000 → roll (rt q9) (hX am dd rt pd tp q9 j).1 i * rt q9 < 9223372036854775808) (htp : ∀ j, j < pn → tp (q9 * 40 + j) < 4611686018427387904) : Met l yX0_balanceAnew wsX0_balanceAnew { frames := 2, cells := 0, slots := 0, locals := 46 } (nk_Pr D (wX h0 h1 h2 h3 h4 h5 h6 h7 h8 h9 cI cJ d r lc bg w rm k pn fa e1 am dd rt b pd pt tp) (tX cI cJ) [.ref h0, .int (nI q9)]) (nk_Rd (some (.long (lN (anw am dd rt pd tp (dyE d lc e1) pn q9))))) 0 0 (fun _ => False) := by
  refine Met.ofW (cc := cX0_balanceAnew) (maxL := 8) (ret := (some .long)) (by decide) rfl ?_
  intro p e s m args below meth c s₁ B hml hv
  obtain ⟨hargs, hP, hK⟩ := hv
  have hx := B.exec
  have hb := B.bytes
  have hr := B.returns
  have hts := atoms_spec (ws := wsX0_balanceAnew) B.pre
  have hown : s.vm.findClass RX0 = some m.cls := findClass_of_methodNamed B.named
  have hlocks := B.notSynchronized
  have hin : ∀ w ∈ wsX00, w ∈ wsX0_balanceAnew := by decide +kernel
  have f20 := hts (.fieldLink RX0 20 "EquityRelease" "drawnAmounts" "[I") (by decide +kernel)
  have k172 : (Cond.constantLong RX0 172 (lN 10000)).before args s = true := by
    rw [show (lN 10000 : Int64) = 10000 from by decide +kernel]
    exact hts (.constantLong RX0 172 (10000)) (by decide +kernel)
  have f23 := hts (.fieldLink RX0 23 "EquityRelease" "drawnDays" "[I") (by decide +kernel)
  have f98 := hts (.fieldLink RX0 98 "EquityRelease" "paymentCount" "I") (by decide +kernel)
  have f53 := hts (.fieldLink RX0 53 "EquityRelease" "today" "I") (by decide +kernel)
  have f26 := hts (.fieldLink RX0 26 "EquityRelease" "drawnRates" "[I") (by decide +kernel)
  have f39 := hts (.fieldLink RX0 39 "EquityRelease" "takenParts" "[J") (by decide +kernel)
  have f33 := hts (.fieldLink RX0 33 "EquityRelease" "paidDays" "[I") (by decide +kernel)
  have hl := lv_entry ([.ref h0, .int (nI q9)]) (n := 8) (Nat.le_of_ble_eq_true rfl)
  have hEe : entryFrame m args 8 = entryFrame m ([.ref h0, .int (nI q9)] : List Value).toArray 8 := by rw [hargs]
  rw [hEe, lg_entry_eq]
  generalize (lg_sl ([.ref h0, .int (nI q9)]) ++ List.replicate (8 - (lg_sl ([.ref h0, .int (nI q9)])).length) Slot.unset).toArray = ls at hl ⊢
  have hl : lv_has ls 8 [(0, .ref h0), (1, .int (nI q9))] := hl
  refine lv_aload_n hx hb dX0_balanceAnew_0 rfl (lv_at hl 0 rfl) ?_
  refine va_get (D := D) (ci := 0) (v := .ref h3) (C := RX0) (T := TX0) (N := 17) hx hb hts hin hown hK hP 0 rfl rfl 9 (by decide) f20 (fun _ h9 => h9) rfl dX0_balanceAnew_1 ?_
  refine lv_iload_n hx hb dX0_balanceAnew_4 rfl (lv_at hl 1 rfl) ?_
  refine nk_iald hx hb hK hP 3 0 rfl rfl (by omega) (by decide) dX0_balanceAnew_5 ?_
  refine nk_i2l hx hb (by omega) dX0_balanceAnew_6 ?_
  refine lv_ldc2 (v := lN 10000) hx hb hown k172 dX0_balanceAnew_7 ?_
  refine nk_lmul hx hb dX0_balanceAnew_10 ?_
  refine lv_lstore_n (lv' := [(2, .long (lN ((am q9) * 10000))), (0, .ref h0), (1, .int (nI q9))]) hx hb dX0_balanceAnew_11 rfl hl (by decide) rfl (fun ls hl => ?_)
  refine lv_aload_n hx hb dX0_balanceAnew_12 rfl (lv_at hl 1 rfl) ?_
  refine va_get (D := D) (ci := 0) (v := .ref h4) (C := RX0) (T := TX0) (N := 17) hx hb hts hin hown hK hP 0 rfl rfl 10 (by decide) f23 (fun _ h9 => h9) rfl dX0_balanceAnew_13 ?_
  refine lv_iload_n hx hb dX0_balanceAnew_16 rfl (lv_at hl 2 rfl) ?_
  refine nk_iald hx hb hK hP 4 0 rfl rfl (by omega) (by decide) dX0_balanceAnew_17 ?_
  refine lv_istore (lv' := [(4, .int (nI (dd q9))), (2, .long (lN ((am q9) * 10000))), (0, .ref h0), (1, .int (nI q9))]) hx hb dX0_balanceAnew_18 hl (by decide) rfl (fun ls hl => ?_)
  refine lv_iconst (v := nI 0) hx hb dX0_balanceAnew_20 (by decide +kernel) ?_
  refine lv_istore (lv' := [(5, .int (nI 0)), (4, .int (nI (dd q9))), (2, .long (lN ((am q9) * 10000))), (0, .ref h0), (1, .int (nI q9))]) hx hb dX0_balanceAnew_21 hl (by decide) rfl (fun ls hl => ?_)
  have loop23 : ∀ (n : Nat) (j : Nat), (j ≤ pn) → pn + 1 ≤ j + n → ∀ ls : Array Slot, lv_has ls 8 [(0, .ref h0), (1, .int (nI q9)), (2, .long (lN ((hX am dd rt pd tp q9 j).1))), (4, .int (nI ((hX am dd rt pd tp q9 j).2))), (5, .int (nI j))] → W p l e (headSpec wsX0_balanceAnew { frames := 2, cells := 0, slots := 0, locals := 46 }).room s m args below meth c s.heap [] 0 0 (MQ below (nk_Rd (some (.long (lN (anw am dd rt pd tp (dyE d lc e1) pn q9))))) args s 0 0 (fun _ => False)) (F0 m 23 ls []) := by
    intro n
    induction n with
    | zero =>
      intro j hj hm
      exfalso; omega
    | succ n ih23 =>
      intro j hj hm ls hl
      refine lv_iload hx hb dX0_balanceAnew_23 (lv_at hl 4 rfl) ?_
      refine lv_aload_n hx hb dX0_balanceAnew_25 rfl (lv_at hl 0 rfl) ?_
      refine va_get (D := D) (ci := 0) (v := .int (nI pn)) (C := RX0) (T := TX0) (N := 17) hx hb hts hin hown hK hP 0 rfl rfl 13 (by decide) f98 (fun _ h9 => h9) rfl dX0_balanceAnew_26 ?_
      refine nk_icmp_ge (tgt := 92) hx hb (by omega) (by omega) dX0_balanceAnew_29 (by decide) (fun c29 => ?_) (fun c29 => ?_)
      · have e9 : j = pn := by omega
        rw [e9] at hl
        have hg2 := hh3 pn (Nat.le_refl _)
        have hm1 := mxE_le (f := e1) (M := 15001) lc he
        refine lv_aload_n hx hb dX0_balanceAnew_92 rfl (lv_at hl 0 rfl) ?_
        refine nk_rd (W.runV (As := []) (rest := []) ⟨hx, hb, hml, hown, hts⟩ (c_X0_hasEnded l D h0 h1 h2 h3 h4 h5 h6 h7 h8 h9 cI cJ d r lc bg w rm k pn fa e1 am dd rt b pd pt tp hlc he) (cwV 0 hts gX0_balanceAnew_X0_hasEnded rfl rfl rfl (by decide +kernel) ⟨Nat.le_of_ble_eq_true rfl, Nat.le_of_ble_eq_true rfl⟩) ⟨nk_Pr.blind, va_recv hK hP (ci := 0) (q0 := 0) rfl rfl, fun U hU hW => ⟨rfl, by rw [hU]; exact hP, va_K.moved hW.alike hK⟩⟩ rfl rfl hl.1 rfl (lv_room (Nat.le_of_ble_eq_true rfl)) dX0_balanceAnew_93 ⟨Nat.zero_le _, Nat.zero_le _⟩) ?_
        refine W.eq (g2 := F0 m 96 ls [.int (nI (if 0 < lc ∧ alive e1 lc = 0 then 1 else 0))]) rfl ?_
        refine nk_bif_eq (tgt := 106) hx hb dX0_balanceAnew_96 (by decide) (fun c96 => ?_) (fun c96 => ?_)
        · refine lv_aload_n hx hb dX0_balanceAnew_106 rfl (lv_at hl 0 rfl) ?_
          refine va_get (D := D) (ci := 0) (v := .int (nI d)) (C := RX0) (T := TX0) (N := 17) hx hb hts hin hown hK hP 0 rfl rfl 0 (by decide) f53 (fun _ h9 => h9) rfl dX0_balanceAnew_107 ?_
          have hdy : dyE d lc e1 = d := by unfold dyE; rw [if_neg c96]
          refine nk_topi (y := nI (dyE d lc e1)) (by rw [hdy]) ?_
          refine lv_istore (lv' := [(5, .int (nI (dyE d lc e1))), (0, .ref h0), (1, .int (nI q9)), (2, .long (lN ((hX am dd rt pd tp q9 pn).1))), (4, .int (nI ((hX am dd rt pd tp q9 pn).2)))]) hx hb dX0_balanceAnew_110 hl (by decide) rfl (fun ls hl => ?_)
          refine lv_lload_n hx hb dX0_balanceAnew_112 rfl (lv_at hl 3 rfl) ?_
          refine lv_aload_n hx hb dX0_balanceAnew_113 rfl (lv_at hl 1 rfl) ?_
          refine va_get (D := D) (ci := 0) (v := .ref h5) (C := RX0) (T := TX0) (N := 17) hx hb hts hin hown hK hP 0 rfl rfl 11 (by decide) f26 (fun _ h9 => h9) rfl dX0_balanceAnew_114 ?_
          refine lv_iload_n hx hb dX0_balanceAnew_117 rfl (lv_at hl 2 rfl) ?_
          refine nk_iald hx hb hK hP 5 0 rfl rfl (by omega) (by decide) dX0_balanceAnew_118 ?_
          refine lv_iload hx hb dX0_balanceAnew_119 (lv_at hl 0 rfl) ?_
          refine lv_iload hx hb dX0_balanceAnew_121 (lv_at hl 4 rfl) ?_
          refine nk_isub hx hb (by omega) dX0_balanceAnew_123 ?_
          refine nk_rd (W.runS (As := [.long (lN ((hX am dd rt pd tp q9 pn).1)), .int (nI (rt q9)), .int (nI ((dyE d lc e1) - ((hX am dd rt pd tp q9 pn).2)))]) (rest := []) ⟨hx, hb, hml, hown, hts⟩ (c_X0_rolledUp l ((hX am dd rt pd tp q9 pn).1) (rt q9) ((dyE d lc e1) - ((hX am dd rt pd tp q9 pn).2)) hrt (by omega) (fun i hi => hg2.2 i (by omega))) (va_cwS 3 hts gX0_balanceAnew_X0_rolledUp rfl rfl rfl (by decide +kernel) ⟨Nat.le_of_ble_eq_true rfl, Nat.le_of_ble_eq_true rfl⟩) ⟨nk_P0.blind, fun U hU hW => ⟨rfl, trivial⟩⟩ rfl rfl hl.1 rfl (lv_room (Nat.le_of_ble_eq_true rfl)) dX0_balanceAnew_124 ⟨Nat.zero_le _, Nat.zero_le _⟩) ?_
          refine W.eq (g2 := F0 m 127 ls [.long (lN (roll (rt q9) ((hX am dd rt pd tp q9 pn).1) ((dyE d lc e1) - ((hX am dd rt pd tp q9 pn).2))))]) rfl ?_
          refine nk_topl (y := (lN (anw am dd rt pd tp (dyE d lc e1) pn q9))) rfl ?_
          exact W.lret hx hb hr (fun t ht hW => ⟨rfl, ht⟩) (fun z h => nomatch h) dX0_balanceAnew_127
        · refine lv_aload_n hx hb dX0_balanceAnew_99 rfl (lv_at hl 0 rfl) ?_
          refine nk_rd (W.runV (As := []) (rest := []) ⟨hx, hb, hml, hown, hts⟩ (c_X0_lastEndDay l D h0 h1 h2 h3 h4 h5 h6 h7 h8 h9 cI cJ d r lc bg w rm k pn fa e1 am dd rt b pd pt tp hlc he) (cwV 0 hts gX0_balanceAnew_X0_lastEndDay rfl rfl rfl (by decide +kernel) ⟨Nat.le_of_ble_eq_true rfl, Nat.le_of_ble_eq_true rfl⟩) ⟨nk_Pr.blind, va_recv hK hP (ci := 0) (q0 := 0) rfl rfl, fun U hU hW => ⟨rfl, by rw [hU]; exact hP, va_K.moved hW.alike hK⟩⟩ rfl rfl hl.1 rfl (lv_room (Nat.le_of_ble_eq_true rfl)) dX0_balanceAnew_100 ⟨Nat.zero_le _, Nat.zero_le _⟩) ?_
          refine W.eq (g2 := F0 m 103 ls [.int (nI (mxE e1 lc) - 1)]) rfl ?_
          have hm2 := mxE_pos c96.1 c96.2
          have hdy : dyE d lc e1 = mxE e1 lc - 1 := by unfold dyE; rw [if_pos c96]
          refine nk_topi (y := nI (dyE d lc e1)) (by rw [hdy]; exact nk_e1 hm2) ?_
          refine lv_goto (tgt := 110) hx hb dX0_balanceAnew_103 (by decide) ?_
          refine lv_istore (lv' := [(5, .int (nI (dyE d lc e1))), (0, .ref h0), (1, .int (nI q9)), (2, .long (lN ((hX am dd rt pd tp q9 pn).1))), (4, .int (nI ((hX am dd rt pd tp q9 pn).2)))]) hx hb dX0_balanceAnew_110 hl (by decide) rfl (fun ls hl => ?_)
          refine lv_lload_n hx hb dX0_balanceAnew_112 rfl (lv_at hl 3 rfl) ?_
          refine lv_aload_n hx hb dX0_balanceAnew_113 rfl (lv_at hl 1 rfl) ?_
          refine va_get (D := D) (ci := 0) (v := .ref h5) (C := RX0) (T := TX0) (N := 17) hx hb hts hin hown hK hP 0 rfl rfl 11 (by decide) f26 (fun _ h9 => h9) rfl dX0_balanceAnew_114 ?_
          refine lv_iload_n hx hb dX0_balanceAnew_117 rfl (lv_at hl 2 rfl) ?_
          refine nk_iald hx hb hK hP 5 0 rfl rfl (by omega) (by decide) dX0_balanceAnew_118 ?_
          refine lv_iload hx hb dX0_balanceAnew_119 (lv_at hl 0 rfl) ?_
          refine lv_iload hx hb dX0_balanceAnew_121 (lv_at hl 4 rfl) ?_
          refine nk_isub hx hb (by omega) dX0_balanceAnew_123 ?_
          refine nk_rd (W.runS (As := [.long (lN ((hX am dd rt pd tp q9 pn).1)), .int (nI (rt q9)), .int (nI ((dyE d lc e1) - ((hX am dd rt pd tp q9 pn).2)))]) (rest := []) ⟨hx, hb, hml, hown, hts⟩ (c_X0_rolledUp l ((hX am dd rt pd tp q9 pn).1) (rt q9) ((dyE d lc e1) - ((hX am dd rt pd tp q9 pn).2)) hrt (by omega) (fun i hi => hg2.2 i (by omega))) (va_cwS 3 hts gX0_balanceAnew_X0_rolledUp rfl rfl rfl (by decide +kernel) ⟨Nat.le_of_ble_eq_true rfl, Nat.le_of_ble_eq_true rfl⟩) ⟨nk_P0.blind, fun U hU hW => ⟨rfl, trivial⟩⟩ rfl rfl hl.1 rfl (lv_room (Nat.le_of_ble_eq_true rfl)) dX0_balanceAnew_124 ⟨Nat.zero_le _, Nat.zero_le _⟩) ?_
          refine W.eq (g2 := F0 m 127 ls [.long (lN (roll (rt q9) ((hX am dd rt pd tp q9 pn).1) ((dyE d lc e1) - ((hX am dd rt pd tp q9 pn).2))))]) rfl ?_
          refine nk_topl (y := (lN (anw am dd rt pd tp (dyE d lc e1) pn q9))) rfl ?_
          exact W.lret hx hb hr (fun t ht hW => ⟨rfl, ht⟩) (fun z h => nomatch h) dX0_balanceAnew_127
      · have ht1 := htp j (by omega)
        refine lv_aload_n hx hb dX0_balanceAnew_32 rfl (lv_at hl 0 rfl) ?_
        refine va_get (D := D) (ci := 0) (v := .ref h9) (C := RX0) (T := TX0) (N := 17) hx hb hts hin hown hK hP 0 rfl rfl 16 (by decide) f39 (fun _ h9 => h9) rfl dX0_balanceAnew_33 ?_
        refine lv_iload_n hx hb dX0_balanceAnew_36 rfl (lv_at hl 1 rfl) ?_
        refine lv_bipush (v := nI 40) hx hb dX0_balanceAnew_37 (by decide +kernel) ?_
        refine nk_imul hx hb dX0_balanceAnew_39 ?_
        refine lv_iload hx hb dX0_balanceAnew_40 (lv_at hl 4 rfl) ?_
        refine nk_iadd hx hb dX0_balanceAnew_42 ?_
        refine nk_lald hx hb hK hP 9 1 rfl rfl (by omega) (by decide) dX0_balanceAnew_43 ?_
        refine lv_lstore (lv' := [(6, .long (lN (tp ((q9 * 40) + j)))), (0, .ref h0), (1, .int (nI q9)), (2, .long (lN ((hX am dd rt pd tp q9 j).1))), (4, .int (nI ((hX am dd rt pd tp q9 j).2))), (5, .int (nI j))]) hx hb dX0_balanceAnew_44 hl (by decide) rfl (fun ls hl => ?_)
        refine lv_lload hx hb dX0_balanceAnew_46 (lv_at hl 0 rfl) ?_
        refine lv_lconst (v := lN 0) hx hb dX0_balanceAnew_48 (by decide +kernel) ?_
        refine nk_lcmp_le (tgt := 86) hx hb (by omega) (by omega) dX0_balanceAnew_49 dX0_balanceAnew_50 (by decide) (fun c49 => ?_) (fun c49 => ?_)
        · refine lv_iinc (v := (nI (j + 1))) (lv' := [(5, .int (nI (j + 1))), (6, .long (lN (tp ((q9 * 40) + j)))), (0, .ref h0), (1, .int (nI q9)), (2, .long (lN ((hX am dd rt pd tp q9 j).1))), (4, .int (nI ((hX am dd rt pd tp q9 j).2)))]) hx hb dX0_balanceAnew_86 hl (k := 5) rfl (nI_1 _) (by decide) rfl (fun ls hl => ?_)
          refine lv_goto (tgt := 23) hx hb dX0_balanceAnew_89 (by decide) ?_
          have q90 : ((lN ((hX am dd rt pd tp q9 (j + 1)).1))) = ((lN ((hX am dd rt pd tp q9 j).1))) := (by rw [hX_s, if_neg (by omega)])
          have q91 : ((nI ((hX am dd rt pd tp q9 (j + 1)).2))) = ((nI ((hX am dd rt pd tp q9 j).2))) := (by rw [hX_s, if_neg (by omega)])
          have hl : lv_has ls 8 [(0, .ref h0), (1, .int (nI q9)), (2, .long (lN ((hX am dd rt pd tp q9 (j + 1)).1))), (4, .int (nI ((hX am dd rt pd tp q9 (j + 1)).2))), (5, .int (nI (j + 1)))] := by
            rw [q90, q91]
            exact lv_sub hl [2, 3, 4, 5, 0] rfl
          exact ih23 (j + 1) (by omega) (by omega) ls hl
        · have hg1 := hh1 j (by omega) c49
          have hg2 := hh3 j (by omega)
          have hg3 := hpd j (by omega)
          refine lv_lload_n hx hb dX0_balanceAnew_53 rfl (lv_at hl 3 rfl) ?_
          refine lv_aload_n hx hb dX0_balanceAnew_54 rfl (lv_at hl 1 rfl) ?_
          refine va_get (D := D) (ci := 0) (v := .ref h5) (C := RX0) (T := TX0) (N := 17) hx hb hts hin hown hK hP 0 rfl rfl 11 (by decide) f26 (fun _ h9 => h9) rfl dX0_balanceAnew_55 ?_
          refine lv_iload_n hx hb dX0_balanceAnew_58 rfl (lv_at hl 2 rfl) ?_
          refine nk_iald hx hb hK hP 5 0 rfl rfl (by omega) (by decide) dX0_balanceAnew_59 ?_
          refine lv_aload_n hx hb dX0_balanceAnew_60 rfl (lv_at hl 1 rfl) ?_
          refine va_get (D := D) (ci := 0) (v := .ref h7) (C := RX0) (T := TX0) (N := 17) hx hb hts hin hown hK hP 0 rfl rfl 14 (by decide) f33 (fun _ h9 => h9) rfl dX0_balanceAnew_61 ?_
          refine lv_iload hx hb dX0_balanceAnew_64 (lv_at hl 5 rfl) ?_
          refine nk_iald hx hb hK hP 7 0 rfl rfl (by omega) (by decide) dX0_balanceAnew_66 ?_
          refine lv_iload hx hb dX0_balanceAnew_67 (lv_at hl 4 rfl) ?_
          refine nk_isub hx hb (by omega) dX0_balanceAnew_69 ?_
          refine nk_rd (W.runS (As := [.long (lN ((hX am dd rt pd tp q9 j).1)), .int (nI (rt q9)), .int (nI ((pd j) - ((hX am dd rt pd tp q9 j).2)))]) (rest := []) ⟨hx, hb, hml, hown, hts⟩ (c_X0_rolledUp l ((hX am dd rt pd tp q9 j).1) (rt q9) ((pd j) - ((hX am dd rt pd tp q9 j).2)) hrt (by omega) (fun i hi => hg2.2 i (by omega))) (va_cwS 3 hts gX0_balanceAnew_X0_rolledUp rfl rfl rfl (by decide +kernel) ⟨Nat.le_of_ble_eq_true rfl, Nat.le_of_ble_eq_true rfl⟩) ⟨nk_P0.blind, fun U hU hW => ⟨rfl, trivial⟩⟩ rfl rfl hl.1 rfl (lv_room (Nat.le_of_ble_eq_true rfl)) dX0_balanceAnew_70 ⟨Nat.zero_le _, Nat.zero_le _⟩) ?_
          refine W.eq (g2 := F0 m 73 ls [.long (lN (roll (rt q9) ((hX am dd rt pd tp q9 j).1) ((pd j) - ((hX am dd rt pd tp q9 j).2))))]) rfl ?_
          refine lv_lload hx hb dX0_balanceAnew_73 (lv_at hl 0 rfl) ?_
          refine nk_lsub hx hb hg1.2 dX0_balanceAnew_75 ?_
          refine lv_lstore_n (lv' := [(2, .long (lN ((roll (rt q9) ((hX am dd rt pd tp q9 j).1) ((pd j) - ((hX am dd rt pd tp q9 j).2))) - (tp ((q9 * 40) + j))))), (6, .long (lN (tp ((q9 * 40) + j)))), (0, .ref h0), (1, .int (nI q9)), (4, .int (nI ((hX am dd rt pd tp q9 j).2))), (5, .int (nI j))]) hx hb dX0_balanceAnew_76 rfl hl (by decide) rfl (fun ls hl => ?_)
          refine lv_aload_n hx hb dX0_balanceAnew_77 rfl (lv_at hl 2 rfl) ?_
          refine va_get (D := D) (ci := 0) (v := .ref h7) (C := RX0) (T := TX0) (N := 17) hx hb hts hin hown hK hP 0 rfl rfl 14 (by decide) f33 (fun _ h9 => h9) rfl dX0_balanceAnew_78 ?_
          refine lv_iload hx hb dX0_balanceAnew_81 (lv_at hl 5 rfl) ?_
          refine nk_iald hx hb hK hP 7 0 rfl rfl (by omega) (by decide) dX0_balanceAnew_83 ?_
          refine lv_istore (lv' := [(4, .int (nI (pd j))), (2, .long (lN ((roll (rt q9) ((hX am dd rt pd tp q9 j).1) ((pd j) - ((hX am dd rt pd tp q9 j).2))) - (tp ((q9 * 40) + j))))), (6, .long (lN (tp ((q9 * 40) + j)))), (0, .ref h0), (1, .int (nI q9)), (5, .int (nI j))]) hx hb dX0_balanceAnew_84 hl (by decide) rfl (fun ls hl => ?_)
          refine lv_iinc (v := (nI (j + 1))) (lv' := [(5, .int (nI (j + 1))), (4, .int (nI (pd j))), (2, .long (lN ((roll (rt q9) ((hX am dd rt pd tp q9 j).1) ((pd j) - ((hX am dd rt pd tp q9 j).2))) - (tp ((q9 * 40) + j))))), (6, .long (lN (tp ((q9 * 40) + j)))), (0, .ref h0), (1, .int (nI q9))]) hx hb dX0_balanceAnew_86 hl (k := 5) rfl (nI_1 _) (by decide) rfl (fun ls hl => ?_)
          refine lv_goto (tgt := 23) hx hb dX0_balanceAnew_89 (by decide) ?_
          have q90 : ((lN ((hX am dd rt pd tp q9 (j + 1)).1))) = ((lN ((roll (rt q9) ((hX am dd rt pd tp q9 j).1) ((pd j) - ((hX am dd rt pd tp q9 j).2))) - (tp ((q9 * 40) + j))))) := (by rw [hX_s, if_pos c49])
          have q91 : ((nI ((hX am dd rt pd tp q9 (j + 1)).2))) = ((nI (pd j))) := (by rw [hX_s, if_pos c49])
          have hl : lv_has ls 8 [(0, .ref h0), (1, .int (nI q9)), (2, .long (lN ((hX am dd rt pd tp q9 (j + 1)).1))), (4, .int (nI ((hX am dd rt pd tp q9 (j + 1)).2))), (5, .int (nI (j + 1)))] := by
            rw [q90, q91]
            exact lv_sub hl [4, 5, 2, 1, 0] rfl
          exact ih23 (j + 1) (by omega) (by omega) ls hl
  exact loop23 (pn + 1) 0 (by omega) (by omega) ls (lv_sub hl [3, 4, 2, 1, 0] rfl)
set_option maxHeartbeats 4000000 in
set_option maxRecDepth 100000 in
theorem c_X0_debtAnew (l : Launch) (D : va_G) (h0 h1 h2 h3 h4 h5 h6 h7 h8 h9 : Nat) (cI cJ : ClassId) (d r lc bg w rm k pn : Nat) (fa e1 am dd rt b pd pt tp : Nat → Nat)  (hpn : pn ≤ 40) (hk : k ≤ 20) (hlc : lc ≤ 2) (he : ∀ j, j < lc → e1 j ≤ 15001) (hd : d ≤ 15000) (ham : ∀ j, j < k → am j ≤ 10000000) (hrt : ∀ j, j < k → rt j ≤ 2000) (hdd : ∀ j, j < k → dd j ≤ 15000) (hpd : ∀ j, j < pn → pd j ≤ 15000) (hh1 : ∀ q9, q9 < k → ∀ j, j < pn → 0 < tp (q9 * 40 + j) → (hX am dd rt pd tp q9 j).2 ≤ pd j ∧ tp (q9 * 40 + j) ≤ roll (rt q9) (hX am dd rt pd tp q9 j).1 (pd j - (hX am dd rt pd tp q9 j).2)) (hh2 : ∀ q9, q9 < k → (hX am dd rt pd tp q9 pn).2 ≤ dyE d lc e1) (hh3 : ∀ q9, q9 < k → ∀ j, j ≤ pn → (hX am dd rt pd tp q9 j).2 ≤ 15000 ∧ ∀ i, (hX am dd rt pd tp q9 j).2 + i ≤ 15000 → roll (rt q9) (hX am dd rt pd tp q9 j).1 i * rt q9 < 9223372036854775808) (htp : ∀ q9, q9 < k → ∀ j, j < pn → tp (q9 * 40 + j) < 4611686018427387904) (hsa : sm (anw am dd rt pd tp (dyE d lc e1) pn) k < 4611686018427387904) : Met l yX0_debtAnew wsX0_debtAnew { frames := 3, cells := 0, slots := 0, locals := 73 } (nk_Pr D (wX h0 h1 h2 h3 h4 h5 h6 h7 h8 h9 cI cJ d r lc bg w rm k pn fa e1 am dd rt b pd pt tp) (tX cI cJ) [.ref h0]) (nk_Rd (some (.long (lN (ceilA (sm (anw am dd rt pd tp (dyE d lc e1) pn) k)))))) 0 0 (fun _ => False) := by
  refine Met.ofW (cc := cX0_debtAnew) (maxL := 4) (ret := (some .long)) (by decide) rfl ?_
  intro p e s m args below meth c s₁ B hml hv
  obtain ⟨hargs, hP, hK⟩ := hv
  have hx := B.exec
  have hb := B.bytes
  have hr := B.returns
  have hts := atoms_spec (ws := wsX0_debtAnew) B.pre
  have hown : s.vm.findClass RX0 = some m.cls := findClass_of_methodNamed B.named
  have hlocks := B.notSynchronized
  have hin : ∀ w ∈ wsX00, w ∈ wsX0_debtAnew := by decide +kernel
  have f89 := hts (.fieldLink RX0 89 "EquityRelease" "drawingCount" "I") (by decide +kernel)
  have hl := lv_entry ([.ref h0]) (n := 4) (Nat.le_of_ble_eq_true rfl)
  have hEe : entryFrame m args 4 = entryFrame m ([.ref h0] : List Value).toArray 4 := by rw [hargs]
  rw [hEe, lg_entry_eq]
  generalize (lg_sl ([.ref h0]) ++ List.replicate (4 - (lg_sl ([.ref h0])).length) Slot.unset).toArray = ls at hl ⊢
  have hl : lv_has ls 4 [(0, .ref h0)] := hl
  refine lv_lconst (v := lN 0) hx hb dX0_debtAnew_0 (by decide +kernel) ?_
  refine lv_lstore_n (lv' := [(1, .long (lN 0)), (0, .ref h0)]) hx hb dX0_debtAnew_1 rfl hl (by decide) rfl (fun ls hl => ?_)
  refine lv_iconst (v := nI 0) hx hb dX0_debtAnew_2 (by decide +kernel) ?_
  refine lv_istore_n (lv' := [(3, .int (nI 0)), (1, .long (lN 0)), (0, .ref h0)]) hx hb dX0_debtAnew_3 rfl hl (by decide) rfl (fun ls hl => ?_)
  have loop4 : ∀ (n : Nat) (i : Nat), (i ≤ k) → k + 1 ≤ i + n → ∀ ls : Array Slot, lv_has ls 4 [(0, .ref h0), (1, .long (lN (sm (anw am dd rt pd tp (dyE d lc e1) pn) i))), (3, .int (nI i))] → W p l e (headSpec wsX0_debtAnew { frames := 3, cells := 0, slots := 0, locals := 73 }).room s m args below meth c s.heap [] 0 0 (MQ below (nk_Rd (some (.long (lN (ceilA (sm (anw am dd rt pd tp (dyE d lc e1) pn) k)))))) args s 0 0 (fun _ => False)) (F0 m 4 ls []) := by
    intro n
    induction n with
    | zero =>
      intro i hi hm
      exfalso; omega
    | succ n ih4 =>
      intro i hi hm ls hl
      refine lv_iload_n hx hb dX0_debtAnew_4 rfl (lv_at hl 2 rfl) ?_
      refine lv_aload_n hx hb dX0_debtAnew_5 rfl (lv_at hl 0 rfl) ?_
      refine va_get (D := D) (ci := 0) (v := .int (nI k)) (C := RX0) (T := TX0) (N := 17) hx hb hts hin hown hK hP 0 rfl rfl 8 (by decide) f89 (fun _ h9 => h9) rfl dX0_debtAnew_6 ?_
      refine nk_icmp_ge (tgt := 26) hx hb (by omega) (by omega) dX0_debtAnew_9 (by decide) (fun c9 => ?_) (fun c9 => ?_)
      · have e9 : i = k := by omega
        rw [e9] at hl
        refine lv_lload_n hx hb dX0_debtAnew_26 rfl (lv_at hl 1 rfl) ?_
        refine nk_rd (W.runS (As := [.long (lN (sm (anw am dd rt pd tp (dyE d lc e1) pn) k))]) (rest := []) ⟨hx, hb, hml, hown, hts⟩ (c_X0_wholeAmount l (sm (anw am dd rt pd tp (dyE d lc e1) pn) k) (by omega)) (va_cwS 1 hts gX0_debtAnew_X0_wholeAmount rfl rfl rfl (by decide +kernel) ⟨Nat.le_of_ble_eq_true rfl, Nat.le_of_ble_eq_true rfl⟩) ⟨nk_P0.blind, fun U hU hW => ⟨rfl, trivial⟩⟩ rfl rfl hl.1 rfl (lv_room (Nat.le_of_ble_eq_true rfl)) dX0_debtAnew_27 ⟨Nat.zero_le _, Nat.zero_le _⟩) ?_
        refine W.eq (g2 := F0 m 30 ls [.long (lN (ceilA (sm (anw am dd rt pd tp (dyE d lc e1) pn) k)))]) rfl ?_
        exact W.lret hx hb hr (fun t ht hW => ⟨rfl, ht⟩) (fun z h => nomatch h) dX0_debtAnew_30
      · refine lv_lload_n hx hb dX0_debtAnew_12 rfl (lv_at hl 1 rfl) ?_
        refine lv_aload_n hx hb dX0_debtAnew_13 rfl (lv_at hl 0 rfl) ?_
        refine lv_iload_n hx hb dX0_debtAnew_14 rfl (lv_at hl 2 rfl) ?_
        refine nk_rd (W.runV (As := [.int (nI i)]) (rest := [.long (lN (sm (anw am dd rt pd tp (dyE d lc e1) pn) i))]) ⟨hx, hb, hml, hown, hts⟩ (c_X0_balanceAnew l D h0 h1 h2 h3 h4 h5 h6 h7 h8 h9 cI cJ d r lc bg w rm k pn fa e1 am dd rt b pd pt tp i hpn (by omega) hlc he hd (ham i (by omega)) (hrt i (by omega)) (hdd i (by omega)) hpd (hh1 i (by omega)) (hh2 i (by omega)) (hh3 i (by omega)) (htp i (by omega))) (cwV 1 hts gX0_debtAnew_X0_balanceAnew rfl rfl rfl (by decide +kernel) ⟨Nat.le_of_ble_eq_true rfl, Nat.le_of_ble_eq_true rfl⟩) ⟨nk_Pr.blind, va_recv hK hP (ci := 0) (q0 := 0) rfl rfl, fun U hU hW => ⟨rfl, by rw [hU]; exact hP, va_K.moved hW.alike hK⟩⟩ rfl rfl hl.1 rfl (lv_room (Nat.le_of_ble_eq_true rfl)) dX0_debtAnew_15 ⟨Nat.zero_le _, Nat.zero_le _⟩) ?_
        refine W.eq (g2 := F0 m 18 ls [.long (lN (anw am dd rt pd tp (dyE d lc e1) pn i)), .long (lN (sm (anw am dd rt pd tp (dyE d lc e1) pn) i))]) rfl ?_
        refine nk_ladd hx hb dX0_debtAnew_18 ?_
        refine lv_lstore_n (lv' := [(1, .long (lN ((sm (anw am dd rt pd tp (dyE d lc e1) pn) i) + (anw am dd rt pd tp (dyE d lc e1) pn i)))), (0, .ref h0), (3, .int (nI i))]) hx hb dX0_debtAnew_19 rfl hl (by decide) rfl (fun ls hl => ?_)
        refine lv_iinc (v := (nI (i + 1))) (lv' := [(3, .int (nI (i + 1))), (1, .long (lN ((sm (anw am dd rt pd tp (dyE d lc e1) pn) i) + (anw am dd rt pd tp (dyE d lc e1) pn i)))), (0, .ref h0)]) hx hb dX0_debtAnew_20 hl (k := 2) rfl (nI_1 _) (by decide) rfl (fun ls hl => ?_)
        refine lv_goto (tgt := 4) hx hb dX0_debtAnew_23 (by decide) ?_
        have q9 : ((lN (sm (anw am dd rt pd tp (dyE d lc e1) pn) (i + 1)))) = ((lN ((sm (anw am dd rt pd tp (dyE d lc e1) pn) i) + (anw am dd rt pd tp (dyE d lc e1) pn i)))) := rfl
        have hl : lv_has ls 4 [(0, .ref h0), (1, .long (lN (sm (anw am dd rt pd tp (dyE d lc e1) pn) (i + 1)))), (3, .int (nI (i + 1)))] := by
          rw [q9]
          exact lv_sub hl [2, 1, 0] rfl
        exact ih4 (i + 1) (by omega) (by omega) ls hl
  exact loop4 (k + 1) 0 (by omega) (by omega) ls (lv_sub hl [2, 1, 0] rfl)
set_option maxHeartbeats 4000000 in
set_option maxRecDepth 100000 in
theorem c_X0_owed (l : Launch) (D : va_G) (h0 h1 h2 h3 h4 h5 h6 h7 h8 h9 : Nat) (cI cJ : ClassId) (d r lc bg w rm k pn : Nat) (fa e1 am dd rt b pd pt tp : Nat → Nat)  (hk : k ≤ 20) (hbs : sm b k < 4611686018427387904) (hw : w ≤ 10000000) : Met l yX0_owed wsX0_owed { frames := 2, cells := 0, slots := 0, locals := 44 } (nk_Pr D (wX h0 h1 h2 h3 h4 h5 h6 h7 h8 h9 cI cJ d r lc bg w rm k pn fa e1 am dd rt b pd pt tp) (tX cI cJ) [.ref h0]) (nk_Rd (some (.long (lN (min (ceilA (sm b k)) w))))) 0 0 (fun _ => False) := by
  refine Met.ofW (cc := cX0_owed) (maxL := 1) (ret := (some .long)) (by decide) rfl ?_
  intro p e s m args below meth c s₁ B hml hv
  obtain ⟨hargs, hP, hK⟩ := hv
  have hx := B.exec
  have hb := B.bytes
  have hr := B.returns
  have hts := atoms_spec (ws := wsX0_owed) B.pre
  have hown : s.vm.findClass RX0 = some m.cls := findClass_of_methodNamed B.named
  have hlocks := B.notSynchronized
  have hin : ∀ w ∈ wsX00, w ∈ wsX0_owed := by decide +kernel
  have f77 := hts (.fieldLink RX0 77 "EquityRelease" "houseWorth" "I") (by decide +kernel)
  have hl := lv_entry ([.ref h0]) (n := 1) (Nat.le_of_ble_eq_true rfl)
  have hEe : entryFrame m args 1 = entryFrame m ([.ref h0] : List Value).toArray 1 := by rw [hargs]
  rw [hEe, lg_entry_eq]
  generalize (lg_sl ([.ref h0]) ++ List.replicate (1 - (lg_sl ([.ref h0])).length) Slot.unset).toArray = ls at hl ⊢
  have hl : lv_has ls 1 [(0, .ref h0)] := hl
  refine lv_aload_n hx hb dX0_owed_0 rfl (lv_at hl 0 rfl) ?_
  refine nk_rd (W.runV (As := []) (rest := []) ⟨hx, hb, hml, hown, hts⟩ (c_X0_debt l D h0 h1 h2 h3 h4 h5 h6 h7 h8 h9 cI cJ d r lc bg w rm k pn fa e1 am dd rt b pd pt tp hk hbs) (cwV 0 hts gX0_owed_X0_debt rfl rfl rfl (by decide +kernel) ⟨Nat.le_of_ble_eq_true rfl, Nat.le_of_ble_eq_true rfl⟩) ⟨nk_Pr.blind, va_recv hK hP (ci := 0) (q0 := 0) rfl rfl, fun U hU hW => ⟨rfl, by rw [hU]; exact hP, va_K.moved hW.alike hK⟩⟩ rfl rfl hl.1 rfl (lv_room (Nat.le_of_ble_eq_true rfl)) dX0_owed_1 ⟨Nat.zero_le _, Nat.zero_le _⟩) ?_
  refine W.eq (g2 := F0 m 4 ls [.long (lN (ceilA (sm b k)))]) rfl ?_
  refine lv_aload_n hx hb dX0_owed_4 rfl (lv_at hl 0 rfl) ?_
  refine va_get (D := D) (ci := 0) (v := .int (nI w)) (C := RX0) (T := TX0) (N := 17) hx hb hts hin hown hK hP 0 rfl rfl 6 (by decide) f77 (fun _ h9 => h9) rfl dX0_owed_5 ?_
  refine nk_i2l hx hb (by omega) dX0_owed_8 ?_
  have hc9 : ceilA (sm b k) < 4611686018427387904 := by unfold ceilA; omega
  refine va_mmin_long hx hb (hml.trans hl.1.symm) hown (hts (.methodLink RX0 155 Lib.MathLoose.min_long.x) (by decide +kernel)) (hts (.static Lib.MathLoose.min_long.x) (by decide +kernel)) (hts (.initialized "java/lang/Math") (by decide +kernel)) (hts (.code Lib.MathLoose.min_long.x Lib.MathLoose.min_long.code 4 (some .long)) (by decide +kernel)) (Nat.le_of_ble_eq_true rfl) (Nat.le_of_ble_eq_true rfl) (Nat.zero_le _) (Nat.zero_le _) dX0_owed_9 ?_
  refine nk_topl (y := (lN (min (ceilA (sm b k)) w))) (nk_minL (by omega) (by omega)) ?_
  exact W.lret hx hb hr (fun t ht hW => ⟨rfl, ht⟩) (fun z h => nomatch h) dX0_owed_12
set_option maxHeartbeats 4000000 in
set_option maxRecDepth 100000 in
theorem c_X0_spared (l : Launch) (D : va_G) (h0 h1 h2 h3 h4 h5 h6 h7 h8 h9 : Nat) (cI cJ : ClassId) (d r lc bg w rm k pn : Nat) (fa e1 am dd rt b pd pt tp : Nat → Nat)  (hk : k ≤ 20) (hbs : sm b k < 4611686018427387904) (hw : w ≤ 10000000) : Met l yX0_spared wsX0_spared { frames := 3, cells := 0, slots := 0, locals := 64 } (nk_Pr D (wX h0 h1 h2 h3 h4 h5 h6 h7 h8 h9 cI cJ d r lc bg w rm k pn fa e1 am dd rt b pd pt tp) (tX cI cJ) [.ref h0]) (nk_Rd (some (.long (lN (ceilA (sm b k) - min (ceilA (sm b k)) w))))) 0 0 (fun _ => False) := by
  refine Met.ofW (cc := cX0_spared) (maxL := 1) (ret := (some .long)) (by decide) rfl ?_
  intro p e s m args below meth c s₁ B hml hv
  obtain ⟨hargs, hP, hK⟩ := hv
  have hx := B.exec
  have hb := B.bytes
  have hr := B.returns
  have hts := atoms_spec (ws := wsX0_spared) B.pre
  have hown : s.vm.findClass RX0 = some m.cls := findClass_of_methodNamed B.named
  have hlocks := B.notSynchronized
  have hin : ∀ w ∈ wsX00, w ∈ wsX0_spared := by decide +kernel
  have hl := lv_entry ([.ref h0]) (n := 1) (Nat.le_of_ble_eq_true rfl)
  have hEe : entryFrame m args 1 = entryFrame m ([.ref h0] : List Value).toArray 1 := by rw [hargs]
  rw [hEe, lg_entry_eq]
  generalize (lg_sl ([.ref h0]) ++ List.replicate (1 - (lg_sl ([.ref h0])).length) Slot.unset).toArray = ls at hl ⊢
  have hl : lv_has ls 1 [(0, .ref h0)] := hl
  refine lv_aload_n hx hb dX0_spared_0 rfl (lv_at hl 0 rfl) ?_
  refine nk_rd (W.runV (As := []) (rest := []) ⟨hx, hb, hml, hown, hts⟩ (c_X0_debt l D h0 h1 h2 h3 h4 h5 h6 h7 h8 h9 cI cJ d r lc bg w rm k pn fa e1 am dd rt b pd pt tp hk hbs) (cwV 0 hts gX0_spared_X0_debt rfl rfl rfl (by decide +kernel) ⟨Nat.le_of_ble_eq_true rfl, Nat.le_of_ble_eq_true rfl⟩) ⟨nk_Pr.blind, va_recv hK hP (ci := 0) (q0 := 0) rfl rfl, fun U hU hW => ⟨rfl, by rw [hU]; exact hP, va_K.moved hW.alike hK⟩⟩ rfl rfl hl.1 rfl (lv_room (Nat.le_of_ble_eq_true rfl)) dX0_spared_1 ⟨Nat.zero_le _, Nat.zero_le _⟩) ?_
  refine W.eq (g2 := F0 m 4 ls [.long (lN (ceilA (sm b k)))]) rfl ?_
  refine lv_aload_n hx hb dX0_spared_4 rfl (lv_at hl 0 rfl) ?_
  refine nk_rd (W.runV (As := []) (rest := [.long (lN (ceilA (sm b k)))]) ⟨hx, hb, hml, hown, hts⟩ (c_X0_owed l D h0 h1 h2 h3 h4 h5 h6 h7 h8 h9 cI cJ d r lc bg w rm k pn fa e1 am dd rt b pd pt tp hk hbs hw) (cwV 0 hts gX0_spared_X0_owed rfl rfl rfl (by decide +kernel) ⟨Nat.le_of_ble_eq_true rfl, Nat.le_of_ble_eq_true rfl⟩) ⟨nk_Pr.blind, va_recv hK hP (ci := 0) (q0 := 0) rfl rfl, fun U hU hW => ⟨rfl, by rw [hU]; exact hP, va_K.moved hW.alike hK⟩⟩ rfl rfl hl.1 rfl (lv_room (Nat.le_of_ble_eq_true rfl)) dX0_spared_5 ⟨Nat.zero_le _, Nat.zero_le _⟩) ?_
  refine W.eq (g2 := F0 m 8 ls [.long (lN (min (ceilA (sm b k)) w)), .long (lN (ceilA (sm b k)))]) rfl ?_
  refine nk_lsub hx hb (Nat.min_le_left _ _) dX0_spared_8 ?_
  refine nk_topl (y := (lN (ceilA (sm b k) - min (ceilA (sm b k)) w))) rfl ?_
  exact W.lret hx hb hr (fun t ht hW => ⟨rfl, ht⟩) (fun z h => nomatch h) dX0_spared_9
set_option maxHeartbeats 4000000 in
set_option maxRecDepth 100000 in
theorem c_X0_day (l : Launch) (D : va_G) (h0 h1 h2 h3 h4 h5 h6 h7 h8 h9 : Nat) (cI cJ : ClassId) (d r lc bg w rm k pn : Nat) (fa e1 am dd rt b pd pt tp : Nat → Nat)   : Met l yX0_day wsX0_day { frames := 0, cells := 0, slots := 0, locals := 0 } (nk_Pr D (wX h0 h1 h2 h3 h4 h5 h6 h7 h8 h9 cI cJ d r lc bg w rm k pn fa e1 am dd rt b pd pt tp) (tX cI cJ) [.ref h0]) (nk_Rd (some (.int (nI d)))) 0 0 (fun _ => False) := by
  refine Met.ofW (cc := cX0_day) (maxL := 1) (ret := (some .int)) (by decide) rfl ?_
  intro p e s m args below meth c s₁ B hml hv
  obtain ⟨hargs, hP, hK⟩ := hv
  have hx := B.exec
  have hb := B.bytes
  have hr := B.returns
  have hts := atoms_spec (ws := wsX0_day) B.pre
  have hown : s.vm.findClass RX0 = some m.cls := findClass_of_methodNamed B.named
  have hlocks := B.notSynchronized
  have hin : ∀ w ∈ wsX00, w ∈ wsX0_day := by decide +kernel
  have f53 := hts (.fieldLink RX0 53 "EquityRelease" "today" "I") (by decide +kernel)
  have hl := lv_entry ([.ref h0]) (n := 1) (Nat.le_of_ble_eq_true rfl)
  have hEe : entryFrame m args 1 = entryFrame m ([.ref h0] : List Value).toArray 1 := by rw [hargs]
  rw [hEe, lg_entry_eq]
  generalize (lg_sl ([.ref h0]) ++ List.replicate (1 - (lg_sl ([.ref h0])).length) Slot.unset).toArray = ls at hl ⊢
  have hl : lv_has ls 1 [(0, .ref h0)] := hl
  refine lv_aload_n hx hb dX0_day_0 rfl (lv_at hl 0 rfl) ?_
  refine va_get (D := D) (ci := 0) (v := .int (nI d)) (C := RX0) (T := TX0) (N := 17) hx hb hts hin hown hK hP 0 rfl rfl 0 (by decide) f53 (fun _ h9 => h9) rfl dX0_day_1 ?_
  exact W.iret hx hb hr (fun t ht hW => ⟨rfl, ht⟩) (fun z h => nomatch h) dX0_day_4
set_option maxHeartbeats 4000000 in
set_option maxRecDepth 100000 in
theorem c_X0_worth (l : Launch) (D : va_G) (h0 h1 h2 h3 h4 h5 h6 h7 h8 h9 : Nat) (cI cJ : ClassId) (d r lc bg w rm k pn : Nat) (fa e1 am dd rt b pd pt tp : Nat → Nat)   : Met l yX0_worth wsX0_worth { frames := 0, cells := 0, slots := 0, locals := 0 } (nk_Pr D (wX h0 h1 h2 h3 h4 h5 h6 h7 h8 h9 cI cJ d r lc bg w rm k pn fa e1 am dd rt b pd pt tp) (tX cI cJ) [.ref h0]) (nk_Rd (some (.int (nI w)))) 0 0 (fun _ => False) := by
  refine Met.ofW (cc := cX0_worth) (maxL := 1) (ret := (some .int)) (by decide) rfl ?_
  intro p e s m args below meth c s₁ B hml hv
  obtain ⟨hargs, hP, hK⟩ := hv
  have hx := B.exec
  have hb := B.bytes
  have hr := B.returns
  have hts := atoms_spec (ws := wsX0_worth) B.pre
  have hown : s.vm.findClass RX0 = some m.cls := findClass_of_methodNamed B.named
  have hlocks := B.notSynchronized
  have hin : ∀ w ∈ wsX00, w ∈ wsX0_worth := by decide +kernel
  have f77 := hts (.fieldLink RX0 77 "EquityRelease" "houseWorth" "I") (by decide +kernel)
  have hl := lv_entry ([.ref h0]) (n := 1) (Nat.le_of_ble_eq_true rfl)
  have hEe : entryFrame m args 1 = entryFrame m ([.ref h0] : List Value).toArray 1 := by rw [hargs]
  rw [hEe, lg_entry_eq]
  generalize (lg_sl ([.ref h0]) ++ List.replicate (1 - (lg_sl ([.ref h0])).length) Slot.unset).toArray = ls at hl ⊢
  have hl : lv_has ls 1 [(0, .ref h0)] := hl
  refine lv_aload_n hx hb dX0_worth_0 rfl (lv_at hl 0 rfl) ?_
  refine va_get (D := D) (ci := 0) (v := .int (nI w)) (C := RX0) (T := TX0) (N := 17) hx hb hts hin hown hK hP 0 rfl rfl 6 (by decide) f77 (fun _ h9 => h9) rfl dX0_worth_1 ?_
  exact W.iret hx hb hr (fun t ht hW => ⟨rfl, ht⟩) (fun z h => nomatch h) dX0_worth_4
set_option maxHeartbeats 4000000 in
set_option maxRecDepth 100000 in
theorem c_X0_room (l : Launch) (D : va_G) (h0 h1 h2 h3 h4 h5 h6 h7 h8 h9 : Nat) (cI cJ : ClassId) (d r lc bg w rm k pn : Nat) (fa e1 am dd rt b pd pt tp : Nat → Nat)   : Met l yX0_room wsX0_room { frames := 0, cells := 0, slots := 0, locals := 0 } (nk_Pr D (wX h0 h1 h2 h3 h4 h5 h6 h7 h8 h9 cI cJ d r lc bg w rm k pn fa e1 am dd rt b pd pt tp) (tX cI cJ) [.ref h0]) (nk_Rd (some (.int (nI rm)))) 0 0 (fun _ => False) := by
  refine Met.ofW (cc := cX0_room) (maxL := 1) (ret := (some .int)) (by decide) rfl ?_
  intro p e s m args below meth c s₁ B hml hv
  obtain ⟨hargs, hP, hK⟩ := hv
  have hx := B.exec
  have hb := B.bytes
  have hr := B.returns
  have hts := atoms_spec (ws := wsX0_room) B.pre
  have hown : s.vm.findClass RX0 = some m.cls := findClass_of_methodNamed B.named
  have hlocks := B.notSynchronized
  have hin : ∀ w ∈ wsX00, w ∈ wsX0_room := by decide +kernel
  have f80 := hts (.fieldLink RX0 80 "EquityRelease" "roomLeft" "I") (by decide +kernel)
  have hl := lv_entry ([.ref h0]) (n := 1) (Nat.le_of_ble_eq_true rfl)
  have hEe : entryFrame m args 1 = entryFrame m ([.ref h0] : List Value).toArray 1 := by rw [hargs]
  rw [hEe, lg_entry_eq]
  generalize (lg_sl ([.ref h0]) ++ List.replicate (1 - (lg_sl ([.ref h0])).length) Slot.unset).toArray = ls at hl ⊢
  have hl : lv_has ls 1 [(0, .ref h0)] := hl
  refine lv_aload_n hx hb dX0_room_0 rfl (lv_at hl 0 rfl) ?_
  refine va_get (D := D) (ci := 0) (v := .int (nI rm)) (C := RX0) (T := TX0) (N := 17) hx hb hts hin hown hK hP 0 rfl rfl 7 (by decide) f80 (fun _ h9 => h9) rfl dX0_room_1 ?_
  exact W.iret hx hb hr (fun t ht hW => ⟨rfl, ht⟩) (fun z h => nomatch h) dX0_room_4
set_option maxHeartbeats 4000000 in
set_option maxRecDepth 100000 in
theorem c_X0_drawings (l : Launch) (D : va_G) (h0 h1 h2 h3 h4 h5 h6 h7 h8 h9 : Nat) (cI cJ : ClassId) (d r lc bg w rm k pn : Nat) (fa e1 am dd rt b pd pt tp : Nat → Nat)   : Met l yX0_drawings wsX0_drawings { frames := 0, cells := 0, slots := 0, locals := 0 } (nk_Pr D (wX h0 h1 h2 h3 h4 h5 h6 h7 h8 h9 cI cJ d r lc bg w rm k pn fa e1 am dd rt b pd pt tp) (tX cI cJ) [.ref h0]) (nk_Rd (some (.int (nI k)))) 0 0 (fun _ => False) := by
  refine Met.ofW (cc := cX0_drawings) (maxL := 1) (ret := (some .int)) (by decide) rfl ?_
  intro p e s m args below meth c s₁ B hml hv
  obtain ⟨hargs, hP, hK⟩ := hv
  have hx := B.exec
  have hb := B.bytes
  have hr := B.returns
  have hts := atoms_spec (ws := wsX0_drawings) B.pre
  have hown : s.vm.findClass RX0 = some m.cls := findClass_of_methodNamed B.named
  have hlocks := B.notSynchronized
  have hin : ∀ w ∈ wsX00, w ∈ wsX0_drawings := by decide +kernel
  have f89 := hts (.fieldLink RX0 89 "EquityRelease" "drawingCount" "I") (by decide +kernel)
  have hl := lv_entry ([.ref h0]) (n := 1) (Nat.le_of_ble_eq_true rfl)
  have hEe : entryFrame m args 1 = entryFrame m ([.ref h0] : List Value).toArray 1 := by rw [hargs]
  rw [hEe, lg_entry_eq]
  generalize (lg_sl ([.ref h0]) ++ List.replicate (1 - (lg_sl ([.ref h0])).length) Slot.unset).toArray = ls at hl ⊢
  have hl : lv_has ls 1 [(0, .ref h0)] := hl
  refine lv_aload_n hx hb dX0_drawings_0 rfl (lv_at hl 0 rfl) ?_
  refine va_get (D := D) (ci := 0) (v := .int (nI k)) (C := RX0) (T := TX0) (N := 17) hx hb hts hin hown hK hP 0 rfl rfl 8 (by decide) f89 (fun _ h9 => h9) rfl dX0_drawings_1 ?_
  exact W.iret hx hb hr (fun t ht hW => ⟨rfl, ht⟩) (fun z h => nomatch h) dX0_drawings_4
