set_option maxHeartbeats 4000000 in
set_option maxRecDepth 100000 in
theorem c_X1_in (l : Launch) (x1 x2 x3 : Int32) (z1 z2 z3 : Int) (hz1 : x1.toInt = z1) (hz2 : x2.toInt = z2) (hz3 : x3.toInt = z3) : Met l yX1_in wsX1_in { frames := 0, cells := 0, slots := 0, locals := 0 } (nk_P0 [.int x1, .int x2, .int x3]) (nk_Rd (some (.int (nI (if z2 ≤ z1 ∧ z1 ≤ z3 then 1 else 0))))) 0 0 (fun _ => False) := by
  refine Met.ofW (cc := cX1_in) (maxL := 3) (ret := (some .boolean)) (by decide) rfl ?_
  intro p e s m args below meth c s₁ B hml hv
  obtain ⟨hargs, -⟩ := hv
  have hx := B.exec
  have hb := B.bytes
  have hr := B.returns
  have hts := atoms_spec (ws := wsX1_in) B.pre
  have hown : s.vm.findClass RX1 = some m.cls := findClass_of_methodNamed B.named
  have hlocks := B.notSynchronized
  have hl := lv_entry ([.int x1, .int x2, .int x3]) (n := 3) (Nat.le_of_ble_eq_true rfl)
  have hEe : entryFrame m args 3 = entryFrame m ([.int x1, .int x2, .int x3] : List Value).toArray 3 := by rw [hargs]
  rw [hEe, lg_entry_eq]
  generalize (lg_sl ([.int x1, .int x2, .int x3]) ++ List.replicate (3 - (lg_sl ([.int x1, .int x2, .int x3])).length) Slot.unset).toArray = ls at hl ⊢
  have hl : lv_has ls 3 [(0, .int x1), (1, .int x2), (2, .int x3)] := hl
  refine lv_iload_n hx hb dX1_in_0 rfl (lv_at hl 0 rfl) ?_
  refine lv_iload_n hx hb dX1_in_1 rfl (lv_at hl 1 rfl) ?_
  refine nk_zcmp_lt (tgt := 14) hx hb hz1 hz2 dX1_in_2 (by decide) (fun c2 => ?_) (fun c2 => ?_)
  · refine lv_iconst (v := nI 0) hx hb dX1_in_14 (by decide +kernel) ?_
    exact W.zret (ty := .boolean) hx hb hr rfl (fun t ht hW => ⟨by rw [if_neg (by omega)], ht⟩) (fun z h => nomatch h) dX1_in_15
  · refine lv_iload_n hx hb dX1_in_5 rfl (lv_at hl 0 rfl) ?_
    refine lv_iload_n hx hb dX1_in_6 rfl (lv_at hl 2 rfl) ?_
    refine nk_zcmp_gt (tgt := 14) hx hb hz1 hz3 dX1_in_7 (by decide) (fun c7 => ?_) (fun c7 => ?_)
    · refine lv_iconst (v := nI 0) hx hb dX1_in_14 (by decide +kernel) ?_
      exact W.zret (ty := .boolean) hx hb hr rfl (fun t ht hW => ⟨by rw [if_neg (by omega)], ht⟩) (fun z h => nomatch h) dX1_in_15
    · refine lv_iconst (v := nI 1) hx hb dX1_in_10 (by decide +kernel) ?_
      refine lv_goto (tgt := 15) hx hb dX1_in_11 (by decide) ?_
      exact W.zret (ty := .boolean) hx hb hr rfl (fun t ht hW => ⟨by rw [if_pos ⟨c2, c7⟩], ht⟩) (fun z h => nomatch h) dX1_in_15
set_option maxHeartbeats 4000000 in
set_option maxRecDepth 100000 in
theorem c_X1_thrown (l : Launch) (D : va_G) (g0 g1 g2 g3 g4 : Nat) (cI cJ : ClassId) (d r gb w rm lc k dr pn pa pi th : Nat) (ga e2 b rt : Nat → Nat)   : Met l yX1_thrown wsX1_thrown { frames := 0, cells := 0, slots := 0, locals := 0 } (nk_Pr D (wM g0 g1 g2 g3 g4 cI cJ d r gb w rm lc k dr pn pa pi th ga e2 b rt) (tX cI cJ) [.ref g0]) (nk_Rd (some (.int (nI th)))) 0 0 (fun _ => False) := by
  refine Met.ofW (cc := cX1_thrown) (maxL := 1) (ret := (some .int)) (by decide) rfl ?_
  intro p e s m args below meth c s₁ B hml hv
  obtain ⟨hargs, hP, hK⟩ := hv
  have hx := B.exec
  have hb := B.bytes
  have hr := B.returns
  have hts := atoms_spec (ws := wsX1_thrown) B.pre
  have hown : s.vm.findClass RX1 = some m.cls := findClass_of_methodNamed B.named
  have hlocks := B.notSynchronized
  have hin : ∀ w ∈ wsX10, w ∈ wsX1_thrown := by decide +kernel
  have f27 := hts (.fieldLink RX1 27 "EquityReleaseModel" "thrown" "I") (by decide +kernel)
  have hl := lv_entry ([.ref g0]) (n := 1) (Nat.le_of_ble_eq_true rfl)
  have hEe : entryFrame m args 1 = entryFrame m ([.ref g0] : List Value).toArray 1 := by rw [hargs]
  rw [hEe, lg_entry_eq]
  generalize (lg_sl ([.ref g0]) ++ List.replicate (1 - (lg_sl ([.ref g0])).length) Slot.unset).toArray = ls at hl ⊢
  have hl : lv_has ls 1 [(0, .ref g0)] := hl
  refine lv_aload_n hx hb dX1_thrown_0 rfl (lv_at hl 0 rfl) ?_
  refine va_get (D := D) (ci := 1) (v := .int (nI th)) (C := RX1) (T := TX1) (N := 16) hx hb hts hin hown hK hP 0 rfl rfl 15 (by decide) f27 (fun _ h9 => h9) rfl dX1_thrown_1 ?_
  exact W.iret hx hb hr (fun t ht hW => ⟨rfl, ht⟩) (fun z h => nomatch h) dX1_thrown_4
set_option maxHeartbeats 4000000 in
set_option maxRecDepth 100000 in
theorem c_X1_left (l : Launch) (D : va_G) (g0 g1 g2 g3 g4 : Nat) (cI cJ : ClassId) (d r gb w rm lc k dr pn pa pi th : Nat) (ga e2 b rt : Nat → Nat)  (hlc : lc ≤ 2) (he2 : ∀ j, j < lc → e2 j ≤ 15001) : Met l yX1_left wsX1_left { frames := 0, cells := 0, slots := 0, locals := 0 } (nk_Pr D (wM g0 g1 g2 g3 g4 cI cJ d r gb w rm lc k dr pn pa pi th ga e2 b rt) (tX cI cJ) [.ref g0]) (nk_Rd (some (.int (nI (alive e2 lc))))) 0 0 (fun _ => False) := by
  refine Met.ofW (cc := cX1_left) (maxL := 3) (ret := (some .int)) (by decide) rfl ?_
  intro p e s m args below meth c s₁ B hml hv
  obtain ⟨hargs, hP, hK⟩ := hv
  have hx := B.exec
  have hb := B.bytes
  have hr := B.returns
  have hts := atoms_spec (ws := wsX1_left) B.pre
  have hown : s.vm.findClass RX1 = some m.cls := findClass_of_methodNamed B.named
  have hlocks := B.notSynchronized
  have hin : ∀ w ∈ wsX10, w ∈ wsX1_left := by decide +kernel
  have f30 := hts (.fieldLink RX1 30 "EquityReleaseModel" "lives" "I") (by decide +kernel)
  have f17 := hts (.fieldLink RX1 17 "EquityReleaseModel" "ends" "[I") (by decide +kernel)
  have hl := lv_entry ([.ref g0]) (n := 3) (Nat.le_of_ble_eq_true rfl)
  have hEe : entryFrame m args 3 = entryFrame m ([.ref g0] : List Value).toArray 3 := by rw [hargs]
  rw [hEe, lg_entry_eq]
  generalize (lg_sl ([.ref g0]) ++ List.replicate (3 - (lg_sl ([.ref g0])).length) Slot.unset).toArray = ls at hl ⊢
  have hl : lv_has ls 3 [(0, .ref g0)] := hl
  refine lv_iconst (v := nI 0) hx hb dX1_left_0 (by decide +kernel) ?_
  refine lv_istore_n (lv' := [(1, .int (nI 0)), (0, .ref g0)]) hx hb dX1_left_1 rfl hl (by decide) rfl (fun ls hl => ?_)
  refine lv_iconst (v := nI 0) hx hb dX1_left_2 (by decide +kernel) ?_
  refine lv_istore_n (lv' := [(2, .int (nI 0)), (1, .int (nI 0)), (0, .ref g0)]) hx hb dX1_left_3 rfl hl (by decide) rfl (fun ls hl => ?_)
  have loop4 : ∀ (n : Nat) (i : Nat), (i ≤ lc) → lc + 1 ≤ i + n → ∀ ls : Array Slot, lv_has ls 3 [(0, .ref g0), (1, .int (nI (alive e2 i))), (2, .int (nI i))] → W p l e (headSpec wsX1_left { frames := 0, cells := 0, slots := 0, locals := 0 }).room s m args below meth c s.heap [] 0 0 (MQ below (nk_Rd (some (.int (nI (alive e2 lc))))) args s 0 0 (fun _ => False)) (F0 m 4 ls []) := by
    intro n
    induction n with
    | zero =>
      intro i hi hm
      exfalso; omega
    | succ n ih4 =>
      intro i hi hm ls hl
      refine lv_iload_n hx hb dX1_left_4 rfl (lv_at hl 2 rfl) ?_
      refine lv_aload_n hx hb dX1_left_5 rfl (lv_at hl 0 rfl) ?_
      refine va_get (D := D) (ci := 1) (v := .int (nI lc)) (C := RX1) (T := TX1) (N := 16) hx hb hts hin hown hK hP 0 rfl rfl 5 (by decide) f30 (fun _ h9 => h9) rfl dX1_left_6 ?_
      refine nk_icmp_ge (tgt := 35) hx hb (by omega) (by omega) dX1_left_9 (by decide) (fun c9 => ?_) (fun c9 => ?_)
      · refine lv_iload_n hx hb dX1_left_35 rfl (lv_at hl 1 rfl) ?_
        refine nk_topi (y := (nI (alive e2 lc))) (by rw [show i = lc from by omega]) ?_
        exact W.iret hx hb hr (fun t ht hW => ⟨rfl, ht⟩) (fun z h => nomatch h) dX1_left_36
      · refine lv_iload_n hx hb dX1_left_12 rfl (lv_at hl 1 rfl) ?_
        refine lv_aload_n hx hb dX1_left_13 rfl (lv_at hl 0 rfl) ?_
        refine va_get (D := D) (ci := 1) (v := .ref g2) (C := RX1) (T := TX1) (N := 16) hx hb hts hin hown hK hP 0 rfl rfl 7 (by decide) f17 (fun _ h9 => h9) rfl dX1_left_14 ?_
        refine lv_iload_n hx hb dX1_left_17 rfl (lv_at hl 2 rfl) ?_
        refine nk_iald hx hb hK hP 2 0 rfl rfl (by omega) (by decide) dX1_left_18 ?_
        have he1 := he2 i (by omega)
        refine nk_if_ne (tgt := 26) hx hb (by omega) dX1_left_19 (by decide) (fun c19 => ?_) (fun c19 => ?_)
        · refine lv_iconst (v := nI 0) hx hb dX1_left_26 (by decide +kernel) ?_
          refine nk_iadd hx hb dX1_left_27 ?_
          refine lv_istore_n (lv' := [(1, .int (nI ((alive e2 i) + 0))), (0, .ref g0), (2, .int (nI i))]) hx hb dX1_left_28 rfl hl (by decide) rfl (fun ls hl => ?_)
          refine lv_iinc (v := (nI (i + 1))) (lv' := [(2, .int (nI (i + 1))), (1, .int (nI ((alive e2 i) + 0))), (0, .ref g0)]) hx hb dX1_left_29 hl (k := 2) rfl (nI_1 _) (by decide) rfl (fun ls hl => ?_)
          refine lv_goto (tgt := 4) hx hb dX1_left_32 (by decide) ?_
          have q9 : ((nI (alive e2 (i + 1)))) = ((nI ((alive e2 i) + 0))) := (by rw [alive_s, if_neg (by omega)])
          have hl : lv_has ls 3 [(0, .ref g0), (1, .int (nI (alive e2 (i + 1)))), (2, .int (nI (i + 1)))] := by
            rw [q9]
            exact lv_sub hl [2, 1, 0] rfl
          exact ih4 (i + 1) (by omega) (by omega) ls hl
        · refine lv_iconst (v := nI 1) hx hb dX1_left_22 (by decide +kernel) ?_
          refine lv_goto (tgt := 27) hx hb dX1_left_23 (by decide) ?_
          refine nk_iadd hx hb dX1_left_27 ?_
          refine lv_istore_n (lv' := [(1, .int (nI ((alive e2 i) + 1))), (0, .ref g0), (2, .int (nI i))]) hx hb dX1_left_28 rfl hl (by decide) rfl (fun ls hl => ?_)
          refine lv_iinc (v := (nI (i + 1))) (lv' := [(2, .int (nI (i + 1))), (1, .int (nI ((alive e2 i) + 1))), (0, .ref g0)]) hx hb dX1_left_29 hl (k := 2) rfl (nI_1 _) (by decide) rfl (fun ls hl => ?_)
          refine lv_goto (tgt := 4) hx hb dX1_left_32 (by decide) ?_
          have q9 : ((nI (alive e2 (i + 1)))) = ((nI ((alive e2 i) + 1))) := (by rw [alive_s, if_pos c19])
          have hl : lv_has ls 3 [(0, .ref g0), (1, .int (nI (alive e2 (i + 1)))), (2, .int (nI (i + 1)))] := by
            rw [q9]
            exact lv_sub hl [2, 1, 0] rfl
          exact ih4 (i + 1) (by omega) (by omega) ls hl
  exact loop4 (lc + 1) 0 (by omega) (by omega) ls (lv_sub hl [2, 1, 0] rfl)
set_option maxHeartbeats 4000000 in
set_option maxRecDepth 100000 in
theorem c_X1_isOn (l : Launch) (D : va_G) (g0 g1 g2 g3 g4 : Nat) (cI cJ : ClassId) (d r gb w rm lc k dr pn pa pi th : Nat) (ga e2 b rt : Nat → Nat)  (hgb2 : gb ≤ 15001) (hlc : lc ≤ 2) (he2 : ∀ j, j < lc → e2 j ≤ 15001) : Met l yX1_isOn wsX1_isOn { frames := 1, cells := 0, slots := 0, locals := 22 } (nk_Pr D (wM g0 g1 g2 g3 g4 cI cJ d r gb w rm lc k dr pn pa pi th ga e2 b rt) (tX cI cJ) [.ref g0]) (nk_Rd (some (.int (nI (if 0 < gb ∧ 0 < alive e2 lc then 1 else 0))))) 0 0 (fun _ => False) := by
  refine Met.ofW (cc := cX1_isOn) (maxL := 1) (ret := (some .boolean)) (by decide) rfl ?_
  intro p e s m args below meth c s₁ B hml hv
  obtain ⟨hargs, hP, hK⟩ := hv
  have hx := B.exec
  have hb := B.bytes
  have hr := B.returns
  have hts := atoms_spec (ws := wsX1_isOn) B.pre
  have hown : s.vm.findClass RX1 = some m.cls := findClass_of_methodNamed B.named
  have hlocks := B.notSynchronized
  have hin : ∀ w ∈ wsX10, w ∈ wsX1_isOn := by decide +kernel
  have f33 := hts (.fieldLink RX1 33 "EquityReleaseModel" "begun" "I") (by decide +kernel)
  have hl := lv_entry ([.ref g0]) (n := 1) (Nat.le_of_ble_eq_true rfl)
  have hEe : entryFrame m args 1 = entryFrame m ([.ref g0] : List Value).toArray 1 := by rw [hargs]
  rw [hEe, lg_entry_eq]
  generalize (lg_sl ([.ref g0]) ++ List.replicate (1 - (lg_sl ([.ref g0])).length) Slot.unset).toArray = ls at hl ⊢
  have hl : lv_has ls 1 [(0, .ref g0)] := hl
  refine lv_aload_n hx hb dX1_isOn_0 rfl (lv_at hl 0 rfl) ?_
  refine va_get (D := D) (ci := 1) (v := .int (nI gb)) (C := RX1) (T := TX1) (N := 16) hx hb hts hin hown hK hP 0 rfl rfl 2 (by decide) f33 (fun _ h9 => h9) rfl dX1_isOn_1 ?_
  refine nk_if_le (tgt := 18) hx hb (by omega) dX1_isOn_4 (by decide) (fun c4 => ?_) (fun c4 => ?_)
  · refine lv_iconst (v := nI 0) hx hb dX1_isOn_18 (by decide +kernel) ?_
    exact W.zret (ty := .boolean) hx hb hr rfl (fun t ht hW => ⟨by rw [if_neg (by omega)], ht⟩) (fun z h => nomatch h) dX1_isOn_19
  · refine lv_aload_n hx hb dX1_isOn_7 rfl (lv_at hl 0 rfl) ?_
    refine nk_rd (W.runV (As := []) (rest := []) ⟨hx, hb, hml, hown, hts⟩ (c_X1_left l D g0 g1 g2 g3 g4 cI cJ d r gb w rm lc k dr pn pa pi th ga e2 b rt hlc he2) (cwV 0 hts gX1_isOn_X1_left rfl rfl rfl (by decide +kernel) ⟨Nat.le_of_ble_eq_true rfl, Nat.le_of_ble_eq_true rfl⟩) ⟨nk_Pr.blind, va_recv hK hP (ci := 1) (q0 := 0) rfl rfl, fun U hU hW => ⟨rfl, by rw [hU]; exact hP, va_K.moved hW.alike hK⟩⟩ rfl rfl hl.1 rfl (lv_room (Nat.le_of_ble_eq_true rfl)) dX1_isOn_8 ⟨Nat.zero_le _, Nat.zero_le _⟩) ?_
    refine W.eq (g2 := F0 m 11 ls [.int (nI (alive e2 lc))]) rfl ?_
    have hal := alive_le e2 lc
    refine nk_if_le (tgt := 18) hx hb (by omega) dX1_isOn_11 (by decide) (fun c11 => ?_) (fun c11 => ?_)
    · refine lv_iconst (v := nI 0) hx hb dX1_isOn_18 (by decide +kernel) ?_
      exact W.zret (ty := .boolean) hx hb hr rfl (fun t ht hW => ⟨by rw [if_neg (by omega)], ht⟩) (fun z h => nomatch h) dX1_isOn_19
    · refine lv_iconst (v := nI 1) hx hb dX1_isOn_14 (by decide +kernel) ?_
      refine lv_goto (tgt := 19) hx hb dX1_isOn_15 (by decide) ?_
      exact W.zret (ty := .boolean) hx hb hr rfl (fun t ht hW => ⟨by rw [if_pos ⟨c4, c11⟩], ht⟩) (fun z h => nomatch h) dX1_isOn_19
set_option maxHeartbeats 4000000 in
set_option maxRecDepth 100000 in
theorem c_X1_ageNow (l : Launch) (D : va_G) (g0 g1 g2 g3 g4 : Nat) (cI cJ : ClassId) (d r gb w rm lc k dr pn pa pi th : Nat) (ga e2 b rt : Nat → Nat)  (hlc : lc ≤ 2) (he2 : ∀ j, j < lc → e2 j ≤ 15001) (hga : ∀ j, j < lc → 55 ≤ ga j ∧ ga j ≤ 95) (hd : d ≤ 15000) : Met l yX1_ageNow wsX1_ageNow { frames := 0, cells := 0, slots := 0, locals := 0 } (nk_Pr D (wM g0 g1 g2 g3 g4 cI cJ d r gb w rm lc k dr pn pa pi th ga e2 b rt) (tX cI cJ) [.ref g0]) (nk_Rd (some (.int (nI (agE ga e2 lc (d / 365)) - 1)))) 0 0 (fun _ => False) := by
  refine Met.ofW (cc := cX1_ageNow) (maxL := 4) (ret := (some .int)) (by decide) rfl ?_
  intro p e s m args below meth c s₁ B hml hv
  obtain ⟨hargs, hP, hK⟩ := hv
  have hx := B.exec
  have hb := B.bytes
  have hr := B.returns
  have hts := atoms_spec (ws := wsX1_ageNow) B.pre
  have hown : s.vm.findClass RX1 = some m.cls := findClass_of_methodNamed B.named
  have hlocks := B.notSynchronized
  have hin : ∀ w ∈ wsX10, w ∈ wsX1_ageNow := by decide +kernel
  have f30 := hts (.fieldLink RX1 30 "EquityReleaseModel" "lives" "I") (by decide +kernel)
  have f13 := hts (.fieldLink RX1 13 "EquityReleaseModel" "ages" "[I") (by decide +kernel)
  have f40 := hts (.fieldLink RX1 40 "EquityReleaseModel" "day" "I") (by decide +kernel)
  have f17 := hts (.fieldLink RX1 17 "EquityReleaseModel" "ends" "[I") (by decide +kernel)
  have hl := lv_entry ([.ref g0]) (n := 4) (Nat.le_of_ble_eq_true rfl)
  have hEe : entryFrame m args 4 = entryFrame m ([.ref g0] : List Value).toArray 4 := by rw [hargs]
  rw [hEe, lg_entry_eq]
  generalize (lg_sl ([.ref g0]) ++ List.replicate (4 - (lg_sl ([.ref g0])).length) Slot.unset).toArray = ls at hl ⊢
  have hl : lv_has ls 4 [(0, .ref g0)] := hl
  refine lv_iconst (v := -1) hx hb dX1_ageNow_0 (by decide) ?_
  refine lv_istore_n (lv' := [(1, .int (-1)), (0, .ref g0)]) hx hb dX1_ageNow_1 rfl hl (by decide) rfl (fun ls hl => ?_)
  refine lv_iconst (v := nI 0) hx hb dX1_ageNow_2 (by decide +kernel) ?_
  refine lv_istore_n (lv' := [(2, .int (nI 0)), (1, .int (-1)), (0, .ref g0)]) hx hb dX1_ageNow_3 rfl hl (by decide) rfl (fun ls hl => ?_)
  have loop4 : ∀ (n : Nat) (i : Nat), (i ≤ lc) → lc + 1 ≤ i + n → ∀ ls : Array Slot, lv_has ls 4 [(0, .ref g0), (1, .int (nI (agE ga e2 i (d / 365)) - 1)), (2, .int (nI i))] → W p l e (headSpec wsX1_ageNow { frames := 0, cells := 0, slots := 0, locals := 0 }).room s m args below meth c s.heap [] 0 0 (MQ below (nk_Rd (some (.int (nI (agE ga e2 lc (d / 365)) - 1)))) args s 0 0 (fun _ => False)) (F0 m 4 ls []) := by
    intro n
    induction n with
    | zero =>
      intro i hi hm
      exfalso; omega
    | succ n ih4 =>
      intro i hi hm ls hl
      refine lv_iload_n hx hb dX1_ageNow_4 rfl (lv_at hl 2 rfl) ?_
      refine lv_aload_n hx hb dX1_ageNow_5 rfl (lv_at hl 0 rfl) ?_
      refine va_get (D := D) (ci := 1) (v := .int (nI lc)) (C := RX1) (T := TX1) (N := 16) hx hb hts hin hown hK hP 0 rfl rfl 5 (by decide) f30 (fun _ h9 => h9) rfl dX1_ageNow_6 ?_
      refine nk_icmp_ge (tgt := 59) hx hb (by omega) (by omega) dX1_ageNow_9 (by decide) (fun c9 => ?_) (fun c9 => ?_)
      · refine lv_iload_n hx hb dX1_ageNow_59 rfl (lv_at hl 1 rfl) ?_
        refine nk_topi (y := (nI (agE ga e2 lc (d / 365)) - 1)) (by rw [show i = lc from by omega]) ?_
        exact W.iret hx hb hr (fun t ht hW => ⟨rfl, ht⟩) (fun z h => nomatch h) dX1_ageNow_60
      · have hf1 := hga i (by omega)
        have he1 := he2 i (by omega)
        have hl1 := lstA_le (f := e2) i (fun j hj => hga j (by omega))
        have ha1 : agE ga e2 i (d / 365) ≤ 96 + d / 365 := by unfold agE; split <;> omega
        refine lv_aload_n hx hb dX1_ageNow_12 rfl (lv_at hl 0 rfl) ?_
        refine va_get (D := D) (ci := 1) (v := .ref g1) (C := RX1) (T := TX1) (N := 16) hx hb hts hin hown hK hP 0 rfl rfl 6 (by decide) f13 (fun _ h9 => h9) rfl dX1_ageNow_13 ?_
        refine lv_iload_n hx hb dX1_ageNow_16 rfl (lv_at hl 2 rfl) ?_
        refine nk_iald hx hb hK hP 1 0 rfl rfl (by omega) (by decide) dX1_ageNow_17 ?_
        refine lv_aload_n hx hb dX1_ageNow_18 rfl (lv_at hl 0 rfl) ?_
        refine va_get (D := D) (ci := 1) (v := .int (nI d)) (C := RX1) (T := TX1) (N := 16) hx hb hts hin hown hK hP 0 rfl rfl 0 (by decide) f40 (fun _ h9 => h9) rfl dX1_ageNow_19 ?_
        refine lv_sipush (v := nI 365) hx hb dX1_ageNow_22 (by decide +kernel) ?_
        refine nk_idiv hx hb (by omega) (by decide) (by decide) dX1_ageNow_25 ?_
        refine nk_iadd hx hb dX1_ageNow_26 ?_
        refine lv_istore_n (lv' := [(3, .int (nI ((ga i) + (d / 365)))), (0, .ref g0), (1, .int (nI (agE ga e2 i (d / 365)) - 1)), (2, .int (nI i))]) hx hb dX1_ageNow_27 rfl hl (by decide) rfl (fun ls hl => ?_)
        refine lv_aload_n hx hb dX1_ageNow_28 rfl (lv_at hl 1 rfl) ?_
        refine va_get (D := D) (ci := 1) (v := .ref g2) (C := RX1) (T := TX1) (N := 16) hx hb hts hin hown hK hP 0 rfl rfl 7 (by decide) f17 (fun _ h9 => h9) rfl dX1_ageNow_29 ?_
        refine lv_iload_n hx hb dX1_ageNow_32 rfl (lv_at hl 3 rfl) ?_
        refine nk_iald hx hb hK hP 2 0 rfl rfl (by omega) (by decide) dX1_ageNow_33 ?_
        refine nk_if_ne (tgt := 51) hx hb (by omega) dX1_ageNow_34 (by decide) (fun c34 => ?_) (fun c34 => ?_)
        · refine lv_iload_n hx hb dX1_ageNow_51 rfl (lv_at hl 2 rfl) ?_
          refine lv_istore_n (lv' := [(1, .int (nI (agE ga e2 i (d / 365)) - 1)), (3, .int (nI ((ga i) + (d / 365)))), (0, .ref g0), (2, .int (nI i))]) hx hb dX1_ageNow_52 rfl hl (by decide) rfl (fun ls hl => ?_)
          refine lv_iinc (v := (nI (i + 1))) (lv' := [(2, .int (nI (i + 1))), (1, .int (nI (agE ga e2 i (d / 365)) - 1)), (3, .int (nI ((ga i) + (d / 365)))), (0, .ref g0)]) hx hb dX1_ageNow_53 hl (k := 3) rfl (nI_1 _) (by decide) rfl (fun ls hl => ?_)
          refine lv_goto (tgt := 4) hx hb dX1_ageNow_56 (by decide) ?_
          have q9 : ((nI (agE ga e2 (i + 1) (d / 365)) - 1)) = ((nI (agE ga e2 i (d / 365)) - 1)) := (by rw [agE_s, if_neg (by omega)])
          have hl : lv_has ls 4 [(0, .ref g0), (1, .int (nI (agE ga e2 (i + 1) (d / 365)) - 1)), (2, .int (nI (i + 1)))] := by
            rw [q9]
            exact lv_sub hl [3, 1, 0] rfl
          exact ih4 (i + 1) (by omega) (by omega) ls hl
        · refine lv_iload_n hx hb dX1_ageNow_37 rfl (lv_at hl 2 rfl) ?_
          refine lv_iconst (v := -1) hx hb dX1_ageNow_38 (by decide) ?_
          refine nk_ecmp_eq (tgt := 47) hx hb (by omega) dX1_ageNow_39 (by decide) (fun c39 => ?_) (fun c39 => ?_)
          · refine lv_iload_n hx hb dX1_ageNow_47 rfl (lv_at hl 0 rfl) ?_
            refine lv_goto (tgt := 52) hx hb dX1_ageNow_48 (by decide) ?_
            refine lv_istore_n (lv' := [(1, .int (nI ((ga i) + (d / 365)))), (3, .int (nI ((ga i) + (d / 365)))), (0, .ref g0), (2, .int (nI i))]) hx hb dX1_ageNow_52 rfl hl (by decide) rfl (fun ls hl => ?_)
            refine lv_iinc (v := (nI (i + 1))) (lv' := [(2, .int (nI (i + 1))), (1, .int (nI ((ga i) + (d / 365)))), (3, .int (nI ((ga i) + (d / 365)))), (0, .ref g0)]) hx hb dX1_ageNow_53 hl (k := 3) rfl (nI_1 _) (by decide) rfl (fun ls hl => ?_)
            refine lv_goto (tgt := 4) hx hb dX1_ageNow_56 (by decide) ?_
            have q9 : ((nI (agE ga e2 (i + 1) (d / 365)) - 1)) = ((nI ((ga i) + (d / 365)))) := (by rw [agE_s, if_pos ⟨c34, Or.inl c39⟩, nk_e2])
            have hl : lv_has ls 4 [(0, .ref g0), (1, .int (nI (agE ga e2 (i + 1) (d / 365)) - 1)), (2, .int (nI (i + 1)))] := by
              rw [q9]
              exact lv_sub hl [3, 1, 0] rfl
            exact ih4 (i + 1) (by omega) (by omega) ls hl
          · refine lv_iload_n hx hb dX1_ageNow_42 rfl (lv_at hl 0 rfl) ?_
            refine lv_iload_n hx hb dX1_ageNow_43 rfl (lv_at hl 2 rfl) ?_
            refine nk_topi (y := (nI (agE ga e2 i (d / 365) - 1))) (nk_e1 c39) ?_
            refine nk_icmp_ge (tgt := 51) hx hb (by omega) (by omega) dX1_ageNow_44 (by decide) (fun c44 => ?_) (fun c44 => ?_)
            · refine lv_iload_n hx hb dX1_ageNow_51 rfl (lv_at hl 2 rfl) ?_
              refine lv_istore_n (lv' := [(1, .int (nI (agE ga e2 i (d / 365)) - 1)), (3, .int (nI ((ga i) + (d / 365)))), (0, .ref g0), (2, .int (nI i))]) hx hb dX1_ageNow_52 rfl hl (by decide) rfl (fun ls hl => ?_)
              refine lv_iinc (v := (nI (i + 1))) (lv' := [(2, .int (nI (i + 1))), (1, .int (nI (agE ga e2 i (d / 365)) - 1)), (3, .int (nI ((ga i) + (d / 365)))), (0, .ref g0)]) hx hb dX1_ageNow_53 hl (k := 3) rfl (nI_1 _) (by decide) rfl (fun ls hl => ?_)
              refine lv_goto (tgt := 4) hx hb dX1_ageNow_56 (by decide) ?_
              have q9 : ((nI (agE ga e2 (i + 1) (d / 365)) - 1)) = ((nI (agE ga e2 i (d / 365)) - 1)) := (by rw [agE_s, if_neg (by omega)])
              have hl : lv_has ls 4 [(0, .ref g0), (1, .int (nI (agE ga e2 (i + 1) (d / 365)) - 1)), (2, .int (nI (i + 1)))] := by
                rw [q9]
                exact lv_sub hl [3, 1, 0] rfl
              exact ih4 (i + 1) (by omega) (by omega) ls hl
            · refine lv_iload_n hx hb dX1_ageNow_47 rfl (lv_at hl 0 rfl) ?_
              refine lv_goto (tgt := 52) hx hb dX1_ageNow_48 (by decide) ?_
              refine lv_istore_n (lv' := [(1, .int (nI ((ga i) + (d / 365)))), (3, .int (nI ((ga i) + (d / 365)))), (0, .ref g0), (2, .int (nI i))]) hx hb dX1_ageNow_52 rfl hl (by decide) rfl (fun ls hl => ?_)
              refine lv_iinc (v := (nI (i + 1))) (lv' := [(2, .int (nI (i + 1))), (1, .int (nI ((ga i) + (d / 365)))), (3, .int (nI ((ga i) + (d / 365)))), (0, .ref g0)]) hx hb dX1_ageNow_53 hl (k := 3) rfl (nI_1 _) (by decide) rfl (fun ls hl => ?_)
              refine lv_goto (tgt := 4) hx hb dX1_ageNow_56 (by decide) ?_
              have q9 : ((nI (agE ga e2 (i + 1) (d / 365)) - 1)) = ((nI ((ga i) + (d / 365)))) := (by rw [agE_s, if_pos ⟨c34, Or.inr (by omega)⟩, nk_e2])
              have hl : lv_has ls 4 [(0, .ref g0), (1, .int (nI (agE ga e2 (i + 1) (d / 365)) - 1)), (2, .int (nI (i + 1)))] := by
                rw [q9]
                exact lv_sub hl [3, 1, 0] rfl
              exact ih4 (i + 1) (by omega) (by omega) ls hl
  have hl : lv_has ls 4 [(0, .ref g0), (1, .int (nI (agE ga e2 0 (d / 365)) - 1)), (2, .int (nI 0))] := by
    rw [show (nI (agE ga e2 0 (d / 365)) - 1 : Int32) = -1 from nk_m1.symm]
    exact lv_sub hl [2, 1, 0] rfl
  exact loop4 (lc + 1) 0 (by omega) (by omega) ls hl
set_option maxHeartbeats 4000000 in
set_option maxRecDepth 100000 in
theorem c_X1_greatest (l : Launch) (D : va_G) (g0 g1 g2 g3 g4 : Nat) (cI cJ : ClassId) (d r gb w rm lc k dr pn pa pi th : Nat) (ga e2 b rt : Nat → Nat) (a9 : Nat) (ha9 : a9 ≤ 10000000) (hon : 0 < alive e2 lc) (hlc : lc ≤ 2) (he2 : ∀ j, j < lc → e2 j ≤ 15001) (hga : ∀ j, j < lc → 55 ≤ ga j ∧ ga j ≤ 95) (hd : d ≤ 15000) : Met l yX1_greatest wsX1_greatest { frames := 1, cells := 0, slots := 0, locals := 23 } (nk_Pr D (wM g0 g1 g2 g3 g4 cI cJ d r gb w rm lc k dr pn pa pi th ga e2 b rt) (tX cI cJ) [.ref g0, .int (nI a9)]) (nk_Rd (some (.int (nI (gL a9 (lstA ga e2 lc - 1 + d / 365)))))) 0 0 (fun _ => False) := by
  refine Met.ofW (cc := cX1_greatest) (maxL := 3) (ret := (some .int)) (by decide) rfl ?_
  intro p e s m args below meth c s₁ B hml hv
  obtain ⟨hargs, hP, hK⟩ := hv
  have hx := B.exec
  have hb := B.bytes
  have hr := B.returns
  have hts := atoms_spec (ws := wsX1_greatest) B.pre
  have hown : s.vm.findClass RX1 = some m.cls := findClass_of_methodNamed B.named
  have hlocks := B.notSynchronized
  have hin : ∀ w ∈ wsX10, w ∈ wsX1_greatest := by decide +kernel
  have k46 : (Cond.constantLong RX1 46 (lN 100)).before args s = true := by
    rw [show (lN 100 : Int64) = 100 from by decide +kernel]
    exact hts (.constantLong RX1 46 (100)) (by decide +kernel)
  have hl := lv_entry ([.ref g0, .int (nI a9)]) (n := 3) (Nat.le_of_ble_eq_true rfl)
  have hEe : entryFrame m args 3 = entryFrame m ([.ref g0, .int (nI a9)] : List Value).toArray 3 := by rw [hargs]
  rw [hEe, lg_entry_eq]
  generalize (lg_sl ([.ref g0, .int (nI a9)]) ++ List.replicate (3 - (lg_sl ([.ref g0, .int (nI a9)])).length) Slot.unset).toArray = ls at hl ⊢
  have hl : lv_has ls 3 [(0, .ref g0), (1, .int (nI a9))] := hl
  refine lv_bipush (v := nI 20) hx hb dX1_greatest_0 (by decide +kernel) ?_
  refine lv_aload_n hx hb dX1_greatest_2 rfl (lv_at hl 0 rfl) ?_
  have hl2 := lstA_pos (a := ga) lc hon
  have hl3 := lstA_le (f := e2) lc hga
  have hl4 := lstA_ge (f := e2) lc hga hl2
  refine nk_rd (W.runV (As := []) (rest := [.int (nI 20)]) ⟨hx, hb, hml, hown, hts⟩ (c_X1_ageNow l D g0 g1 g2 g3 g4 cI cJ d r gb w rm lc k dr pn pa pi th ga e2 b rt hlc he2 hga hd) (cwV 0 hts gX1_greatest_X1_ageNow rfl rfl rfl (by decide +kernel) ⟨Nat.le_of_ble_eq_true rfl, Nat.le_of_ble_eq_true rfl⟩) ⟨nk_Pr.blind, va_recv hK hP (ci := 1) (q0 := 0) rfl rfl, fun U hU hW => ⟨rfl, by rw [hU]; exact hP, va_K.moved hW.alike hK⟩⟩ rfl rfl hl.1 rfl (lv_room (Nat.le_of_ble_eq_true rfl)) dX1_greatest_3 ⟨Nat.zero_le _, Nat.zero_le _⟩) ?_
  refine W.eq (g2 := F0 m 6 ls [.int (nI (agE ga e2 lc (d / 365)) - 1), .int (nI 20)]) rfl ?_
  refine nk_topi (y := (nI (lstA ga e2 lc - 1 + d / 365))) (agE_r hl2).symm ?_
  refine nk_iadd hx hb dX1_greatest_6 ?_
  refine lv_bipush (v := nI 55) hx hb dX1_greatest_7 (by decide +kernel) ?_
  refine nk_isub hx hb (by omega) dX1_greatest_9 ?_
  refine lv_istore_n (lv' := [(2, .int (nI ((20 + (lstA ga e2 lc - 1 + d / 365)) - 55))), (0, .ref g0), (1, .int (nI a9))]) hx hb dX1_greatest_10 rfl hl (by decide) rfl (fun ls hl => ?_)
  refine lv_iload_n hx hb dX1_greatest_11 rfl (lv_at hl 2 rfl) ?_
  refine nk_i2l hx hb (by omega) dX1_greatest_12 ?_
  refine lv_iload_n hx hb dX1_greatest_13 rfl (lv_at hl 0 rfl) ?_
  refine lv_bipush (v := nI 55) hx hb dX1_greatest_14 (by decide +kernel) ?_
  refine nk_icmp_ge (tgt := 23) hx hb (by omega) (by omega) dX1_greatest_16 (by decide) (fun c16 => ?_) (fun c16 => ?_)
  · refine lv_bipush (v := nI 55) hx hb dX1_greatest_23 (by decide +kernel) ?_
    refine nk_i2l hx hb (by omega) dX1_greatest_25 ?_
    refine nk_lmul hx hb dX1_greatest_26 ?_
    have h9 : a9 * 55 ≤ 10000000 * 55 := Nat.mul_le_mul_right _ ha9
    refine lv_ldc2 (v := lN 100) hx hb hown k46 dX1_greatest_27 ?_
    refine nk_ldiv hx hb (by omega) (by decide) (by decide) dX1_greatest_30 ?_
    refine nk_l2i hx hb dX1_greatest_31 ?_
    refine nk_topi (y := (nI (gL a9 (lstA ga e2 lc - 1 + d / 365)))) (by unfold gL; rw [Nat.min_eq_left c16]) ?_
    exact W.iret hx hb hr (fun t ht hW => ⟨rfl, ht⟩) (fun z h => nomatch h) dX1_greatest_32
  · refine lv_iload_n hx hb dX1_greatest_19 rfl (lv_at hl 0 rfl) ?_
    refine lv_goto (tgt := 25) hx hb dX1_greatest_20 (by decide) ?_
    refine nk_i2l hx hb (by omega) dX1_greatest_25 ?_
    refine nk_lmul hx hb dX1_greatest_26 ?_
    have h9 : a9 * (20 + (lstA ga e2 lc - 1 + d / 365) - 55) ≤ 10000000 * 55 := Nat.mul_le_mul ha9 (by omega)
    refine lv_ldc2 (v := lN 100) hx hb hown k46 dX1_greatest_27 ?_
    refine nk_ldiv hx hb (by omega) (by decide) (by decide) dX1_greatest_30 ?_
    refine nk_l2i hx hb dX1_greatest_31 ?_
    refine nk_topi (y := (nI (gL a9 (lstA ga e2 lc - 1 + d / 365)))) (by unfold gL; rw [Nat.min_eq_right (by omega)]) ?_
    exact W.iret hx hb hr (fun t ht hW => ⟨rfl, ht⟩) (fun z h => nomatch h) dX1_greatest_32
set_option maxHeartbeats 4000000 in
set_option maxRecDepth 100000 in
theorem c_X1_all (l : Launch) (D : va_G) (g0 g1 g2 g3 g4 : Nat) (cI cJ : ClassId) (d r gb w rm lc k dr pn pa pi th : Nat) (ga e2 b rt : Nat → Nat)  (hk : k ≤ 20) : Met l yX1_all wsX1_all { frames := 0, cells := 0, slots := 0, locals := 0 } (nk_Pr D (wM g0 g1 g2 g3 g4 cI cJ d r gb w rm lc k dr pn pa pi th ga e2 b rt) (tX cI cJ) [.ref g0]) (nk_Rd (some (.long (lN (sm b k))))) 0 0 (fun _ => False) := by
  refine Met.ofW (cc := cX1_all) (maxL := 4) (ret := (some .long)) (by decide) rfl ?_
  intro p e s m args below meth c s₁ B hml hv
  obtain ⟨hargs, hP, hK⟩ := hv
  have hx := B.exec
  have hb := B.bytes
  have hr := B.returns
  have hts := atoms_spec (ws := wsX1_all) B.pre
  have hown : s.vm.findClass RX1 = some m.cls := findClass_of_methodNamed B.named
  have hlocks := B.notSynchronized
  have hin : ∀ w ∈ wsX10, w ∈ wsX1_all := by decide +kernel
  have f48 := hts (.fieldLink RX1 48 "EquityReleaseModel" "drawings" "I") (by decide +kernel)
  have f20 := hts (.fieldLink RX1 20 "EquityReleaseModel" "balances" "[J") (by decide +kernel)
  have hl := lv_entry ([.ref g0]) (n := 4) (Nat.le_of_ble_eq_true rfl)
  have hEe : entryFrame m args 4 = entryFrame m ([.ref g0] : List Value).toArray 4 := by rw [hargs]
  rw [hEe, lg_entry_eq]
  generalize (lg_sl ([.ref g0]) ++ List.replicate (4 - (lg_sl ([.ref g0])).length) Slot.unset).toArray = ls at hl ⊢
  have hl : lv_has ls 4 [(0, .ref g0)] := hl
  refine lv_lconst (v := lN 0) hx hb dX1_all_0 (by decide +kernel) ?_
  refine lv_lstore_n (lv' := [(1, .long (lN 0)), (0, .ref g0)]) hx hb dX1_all_1 rfl hl (by decide) rfl (fun ls hl => ?_)
  refine lv_iconst (v := nI 0) hx hb dX1_all_2 (by decide +kernel) ?_
  refine lv_istore_n (lv' := [(3, .int (nI 0)), (1, .long (lN 0)), (0, .ref g0)]) hx hb dX1_all_3 rfl hl (by decide) rfl (fun ls hl => ?_)
  have loop4 : ∀ (n : Nat) (i : Nat), (i ≤ k) → k + 1 ≤ i + n → ∀ ls : Array Slot, lv_has ls 4 [(0, .ref g0), (1, .long (lN (sm b i))), (3, .int (nI i))] → W p l e (headSpec wsX1_all { frames := 0, cells := 0, slots := 0, locals := 0 }).room s m args below meth c s.heap [] 0 0 (MQ below (nk_Rd (some (.long (lN (sm b k))))) args s 0 0 (fun _ => False)) (F0 m 4 ls []) := by
    intro n
    induction n with
    | zero =>
      intro i hi hm
      exfalso; omega
    | succ n ih4 =>
      intro i hi hm ls hl
      refine lv_iload_n hx hb dX1_all_4 rfl (lv_at hl 2 rfl) ?_
      refine lv_aload_n hx hb dX1_all_5 rfl (lv_at hl 0 rfl) ?_
      refine va_get (D := D) (ci := 1) (v := .int (nI k)) (C := RX1) (T := TX1) (N := 16) hx hb hts hin hown hK hP 0 rfl rfl 8 (by decide) f48 (fun _ h9 => h9) rfl dX1_all_6 ?_
      refine nk_icmp_ge (tgt := 27) hx hb (by omega) (by omega) dX1_all_9 (by decide) (fun c9 => ?_) (fun c9 => ?_)
      · refine lv_lload_n hx hb dX1_all_27 rfl (lv_at hl 1 rfl) ?_
        refine nk_topl (y := (lN (sm b k))) (by rw [show i = k from by omega]) ?_
        exact W.lret hx hb hr (fun t ht hW => ⟨rfl, ht⟩) (fun z h => nomatch h) dX1_all_28
      · refine lv_lload_n hx hb dX1_all_12 rfl (lv_at hl 1 rfl) ?_
        refine lv_aload_n hx hb dX1_all_13 rfl (lv_at hl 0 rfl) ?_
        refine va_get (D := D) (ci := 1) (v := .ref g3) (C := RX1) (T := TX1) (N := 16) hx hb hts hin hown hK hP 0 rfl rfl 9 (by decide) f20 (fun _ h9 => h9) rfl dX1_all_14 ?_
        refine lv_iload_n hx hb dX1_all_17 rfl (lv_at hl 2 rfl) ?_
        refine nk_lald hx hb hK hP 3 1 rfl rfl (by omega) (by decide) dX1_all_18 ?_
        refine nk_ladd hx hb dX1_all_19 ?_
        refine lv_lstore_n (lv' := [(1, .long (lN ((sm b i) + (b i)))), (0, .ref g0), (3, .int (nI i))]) hx hb dX1_all_20 rfl hl (by decide) rfl (fun ls hl => ?_)
        refine lv_iinc (v := (nI (i + 1))) (lv' := [(3, .int (nI (i + 1))), (1, .long (lN ((sm b i) + (b i)))), (0, .ref g0)]) hx hb dX1_all_21 hl (k := 2) rfl (nI_1 _) (by decide) rfl (fun ls hl => ?_)
        refine lv_goto (tgt := 4) hx hb dX1_all_24 (by decide) ?_
        have q9 : ((lN (sm b (i + 1)))) = ((lN ((sm b i) + (b i)))) := rfl
        have hl : lv_has ls 4 [(0, .ref g0), (1, .long (lN (sm b (i + 1)))), (3, .int (nI (i + 1)))] := by
          rw [q9]
          exact lv_sub hl [2, 1, 0] rfl
        exact ih4 (i + 1) (by omega) (by omega) ls hl
  exact loop4 (k + 1) 0 (by omega) (by omega) ls (lv_sub hl [2, 1, 0] rfl)
set_option maxHeartbeats 4000000 in
set_option maxRecDepth 100000 in
theorem c_X1_up (l : Launch) (x9 : Nat) (hx9 : x9 < 4611686018427387904) : Met l yX1_up wsX1_up { frames := 0, cells := 0, slots := 0, locals := 0 } (nk_P0 [.long (lN x9)]) (nk_Rd (some (.long (lN (ceilA x9))))) 0 0 (fun _ => False) := by
  refine Met.ofW (cc := cX1_up) (maxL := 2) (ret := (some .long)) (by decide) rfl ?_
  intro p e s m args below meth c s₁ B hml hv
  obtain ⟨hargs, -⟩ := hv
  have hx := B.exec
  have hb := B.bytes
  have hr := B.returns
  have hts := atoms_spec (ws := wsX1_up) B.pre
  have hown : s.vm.findClass RX1 = some m.cls := findClass_of_methodNamed B.named
  have hlocks := B.notSynchronized
  have k51 : (Cond.constantLong RX1 51 (lN 10000)).before args s = true := by
    rw [show (lN 10000 : Int64) = 10000 from by decide +kernel]
    exact hts (.constantLong RX1 51 (10000)) (by decide +kernel)
  have hl := lv_entry ([.long (lN x9)]) (n := 2) (Nat.le_of_ble_eq_true rfl)
  have hEe : entryFrame m args 2 = entryFrame m ([.long (lN x9)] : List Value).toArray 2 := by rw [hargs]
  rw [hEe, lg_entry_eq]
  generalize (lg_sl ([.long (lN x9)]) ++ List.replicate (2 - (lg_sl ([.long (lN x9)])).length) Slot.unset).toArray = ls at hl ⊢
  have hl : lv_has ls 2 [(0, .long (lN x9))] := hl
  refine lv_lload_n hx hb dX1_up_0 rfl (lv_at hl 0 rfl) ?_
  refine lv_ldc2 (v := lN 10000) hx hb hown k51 dX1_up_1 ?_
  refine nk_ladd hx hb dX1_up_4 ?_
  refine lv_lconst (v := lN 1) hx hb dX1_up_5 (by decide +kernel) ?_
  refine nk_lsub hx hb (by omega) dX1_up_6 ?_
  refine lv_ldc2 (v := lN 10000) hx hb hown k51 dX1_up_7 ?_
  refine nk_ldiv hx hb (by omega) (by decide) (by decide) dX1_up_10 ?_
  refine nk_topl (y := (lN (ceilA x9))) (by unfold ceilA; rw [show x9 + 10000 - 1 = x9 + 9999 from by omega]) ?_
  exact W.lret hx hb hr (fun t ht hW => ⟨rfl, ht⟩) (fun z h => nomatch h) dX1_up_11
set_option maxHeartbeats 4000000 in
set_option maxRecDepth 100000 in
theorem c_X1_year (l : Launch) (D : va_G) (g0 g1 g2 g3 g4 : Nat) (cI cJ : ClassId) (d r gb w rm lc k dr pn pa pi th : Nat) (ga e2 b rt : Nat → Nat)  (hgb : gb ≤ d + 1) (hd : d ≤ 15000) : Met l yX1_year wsX1_year { frames := 0, cells := 0, slots := 0, locals := 0 } (nk_Pr D (wM g0 g1 g2 g3 g4 cI cJ d r gb w rm lc k dr pn pa pi th ga e2 b rt) (tX cI cJ) [.ref g0]) (nk_Rd (some (.int (nI ((d + 1 - gb) / 365))))) 0 0 (fun _ => False) := by
  refine Met.ofW (cc := cX1_year) (maxL := 1) (ret := (some .int)) (by decide) rfl ?_
  intro p e s m args below meth c s₁ B hml hv
  obtain ⟨hargs, hP, hK⟩ := hv
  have hx := B.exec
  have hb := B.bytes
  have hr := B.returns
  have hts := atoms_spec (ws := wsX1_year) B.pre
  have hown : s.vm.findClass RX1 = some m.cls := findClass_of_methodNamed B.named
  have hlocks := B.notSynchronized
  have hin : ∀ w ∈ wsX10, w ∈ wsX1_year := by decide +kernel
  have f40 := hts (.fieldLink RX1 40 "EquityReleaseModel" "day" "I") (by decide +kernel)
  have f33 := hts (.fieldLink RX1 33 "EquityReleaseModel" "begun" "I") (by decide +kernel)
  have hl := lv_entry ([.ref g0]) (n := 1) (Nat.le_of_ble_eq_true rfl)
  have hEe : entryFrame m args 1 = entryFrame m ([.ref g0] : List Value).toArray 1 := by rw [hargs]
  rw [hEe, lg_entry_eq]
  generalize (lg_sl ([.ref g0]) ++ List.replicate (1 - (lg_sl ([.ref g0])).length) Slot.unset).toArray = ls at hl ⊢
  have hl : lv_has ls 1 [(0, .ref g0)] := hl
  refine lv_aload_n hx hb dX1_year_0 rfl (lv_at hl 0 rfl) ?_
  refine va_get (D := D) (ci := 1) (v := .int (nI d)) (C := RX1) (T := TX1) (N := 16) hx hb hts hin hown hK hP 0 rfl rfl 0 (by decide) f40 (fun _ h9 => h9) rfl dX1_year_1 ?_
  refine lv_aload_n hx hb dX1_year_4 rfl (lv_at hl 0 rfl) ?_
  refine va_get (D := D) (ci := 1) (v := .int (nI gb)) (C := RX1) (T := TX1) (N := 16) hx hb hts hin hown hK hP 0 rfl rfl 2 (by decide) f33 (fun _ h9 => h9) rfl dX1_year_5 ?_
  refine lv_isub hx hb dX1_year_8  ?_
  refine lv_iconst (v := nI 1) hx hb dX1_year_9 (by decide +kernel) ?_
  refine lv_iadd hx hb dX1_year_10  ?_
  refine nk_topi (y := (nI (d + 1 - gb))) (nk_yr hgb hd) ?_
  refine lv_sipush (v := nI 365) hx hb dX1_year_11 (by decide +kernel) ?_
  refine nk_idiv hx hb (by omega) (by decide) (by decide) dX1_year_14 ?_
  exact W.iret hx hb hr (fun t ht hW => ⟨rfl, ht⟩) (fun z h => nomatch h) dX1_year_15
set_option maxHeartbeats 4000000 in
set_option maxRecDepth 100000 in
theorem c_X1_free (l : Launch) (D : va_G) (g0 g1 g2 g3 g4 : Nat) (cI cJ : ClassId) (d r gb w rm lc k dr pn pa pi th : Nat) (ga e2 b rt : Nat → Nat)  (hgb : gb ≤ d + 1) (hd : d ≤ 15000) (hpi : pi ≤ 15000) (hdr : dr ≤ 1000000000) (hpa1 : pa ≤ 1000000000) : Met l yX1_free wsX1_free { frames := 1, cells := 0, slots := 0, locals := 20 } (nk_Pr D (wM g0 g1 g2 g3 g4 cI cJ d r gb w rm lc k dr pn pa pi th ga e2 b rt) (tX cI cJ) [.ref g0]) (nk_Rd (some (.long (lN (dr / 10 - (if pi = (d + 1 - gb) / 365 then pa else 0)))))) 0 0 (fun _ => False) := by
  refine Met.ofW (cc := cX1_free) (maxL := 3) (ret := (some .long)) (by decide) rfl ?_
  intro p e s m args below meth c s₁ B hml hv
  obtain ⟨hargs, hP, hK⟩ := hv
  have hx := B.exec
  have hb := B.bytes
  have hr := B.returns
  have hts := atoms_spec (ws := wsX1_free) B.pre
  have hown : s.vm.findClass RX1 = some m.cls := findClass_of_methodNamed B.named
  have hlocks := B.notSynchronized
  have hin : ∀ w ∈ wsX10, w ∈ wsX1_free := by decide +kernel
  have f53 := hts (.fieldLink RX1 53 "EquityReleaseModel" "drawn" "J") (by decide +kernel)
  have k83 : (Cond.constantLong RX1 83 (lN 10)).before args s = true := by
    rw [show (lN 10 : Int64) = 10 from by decide +kernel]
    exact hts (.constantLong RX1 83 (10)) (by decide +kernel)
  have f85 := hts (.fieldLink RX1 85 "EquityReleaseModel" "paidIn" "I") (by decide +kernel)
  have f91 := hts (.fieldLink RX1 91 "EquityReleaseModel" "paid" "J") (by decide +kernel)
  have hl := lv_entry ([.ref g0]) (n := 3) (Nat.le_of_ble_eq_true rfl)
  have hEe : entryFrame m args 3 = entryFrame m ([.ref g0] : List Value).toArray 3 := by rw [hargs]
  rw [hEe, lg_entry_eq]
  generalize (lg_sl ([.ref g0]) ++ List.replicate (3 - (lg_sl ([.ref g0])).length) Slot.unset).toArray = ls at hl ⊢
  have hl : lv_has ls 3 [(0, .ref g0)] := hl
  refine lv_aload_n hx hb dX1_free_0 rfl (lv_at hl 0 rfl) ?_
  refine va_get (D := D) (ci := 1) (v := .long (lN dr)) (C := RX1) (T := TX1) (N := 16) hx hb hts hin hown hK hP 0 rfl rfl 11 (by decide) f53 (fun _ h9 => h9) rfl dX1_free_1 ?_
  refine lv_ldc2 (v := lN 10) hx hb hown k83 dX1_free_4 ?_
  refine nk_ldiv hx hb (by omega) (by decide) (by decide) dX1_free_7 ?_
  refine lv_aload_n hx hb dX1_free_8 rfl (lv_at hl 0 rfl) ?_
  refine va_get (D := D) (ci := 1) (v := .int (nI pi)) (C := RX1) (T := TX1) (N := 16) hx hb hts hin hown hK hP 0 rfl rfl 14 (by decide) f85 (fun _ h9 => h9) rfl dX1_free_9 ?_
  refine lv_aload_n hx hb dX1_free_12 rfl (lv_at hl 0 rfl) ?_
  refine nk_rd (W.runV (As := []) (rest := [.int (nI pi), .long (lN (dr / 10))]) ⟨hx, hb, hml, hown, hts⟩ (c_X1_year l D g0 g1 g2 g3 g4 cI cJ d r gb w rm lc k dr pn pa pi th ga e2 b rt hgb hd) (cwV 0 hts gX1_free_X1_year rfl rfl rfl (by decide +kernel) ⟨Nat.le_of_ble_eq_true rfl, Nat.le_of_ble_eq_true rfl⟩) ⟨nk_Pr.blind, va_recv hK hP (ci := 1) (q0 := 0) rfl rfl, fun U hU hW => ⟨rfl, by rw [hU]; exact hP, va_K.moved hW.alike hK⟩⟩ rfl rfl hl.1 rfl (lv_room (Nat.le_of_ble_eq_true rfl)) dX1_free_13 ⟨Nat.zero_le _, Nat.zero_le _⟩) ?_
  refine W.eq (g2 := F0 m 16 ls [.int (nI ((d + 1 - gb) / 365)), .int (nI pi), .long (lN (dr / 10))]) rfl ?_
  refine nk_icmp_ne (tgt := 26) hx hb (by omega) (by omega) dX1_free_16 (by decide) (fun c16 => ?_) (fun c16 => ?_)
  · refine lv_lconst (v := lN 0) hx hb dX1_free_26 (by decide +kernel) ?_
    refine lv_lsub hx hb dX1_free_27 ?_
    refine lv_lstore_n (lv' := [(1, .long ((lN (dr / 10)) - (lN 0))), (0, .ref g0)]) hx hb dX1_free_28 rfl hl (by decide) rfl (fun ls hl => ?_)
    refine lv_lload_n hx hb dX1_free_29 rfl (lv_at hl 0 rfl) ?_
    refine lv_lconst (v := lN 0) hx hb dX1_free_30 (by decide +kernel) ?_
    refine nk_zlcmp_le (tgt := 39) hx hb (nk_subL (by omega) (by omega)) dX1_free_31 dX1_free_32 (by decide) (fun c31 => ?_) (fun c31 => ?_)
    · refine lv_lconst (v := lN 0) hx hb dX1_free_39 (by decide +kernel) ?_
      refine nk_topl (y := (lN (dr / 10 - (if pi = (d + 1 - gb) / 365 then pa else 0)))) (by rw [if_neg c16]; congr 1; omega) ?_
      exact W.lret hx hb hr (fun t ht hW => ⟨rfl, ht⟩) (fun z h => nomatch h) dX1_free_40
    · refine lv_lload_n hx hb dX1_free_35 rfl (lv_at hl 0 rfl) ?_
      refine nk_topl (y := (lN (dr / 10 - 0))) (lN_sub (by omega)) ?_
      refine lv_goto (tgt := 40) hx hb dX1_free_36 (by decide) ?_
      refine nk_topl (y := (lN (dr / 10 - (if pi = (d + 1 - gb) / 365 then pa else 0)))) (by rw [if_neg c16]) ?_
      exact W.lret hx hb hr (fun t ht hW => ⟨rfl, ht⟩) (fun z h => nomatch h) dX1_free_40
  · refine lv_aload_n hx hb dX1_free_19 rfl (lv_at hl 0 rfl) ?_
    refine va_get (D := D) (ci := 1) (v := .long (lN pa)) (C := RX1) (T := TX1) (N := 16) hx hb hts hin hown hK hP 0 rfl rfl 13 (by decide) f91 (fun _ h9 => h9) rfl dX1_free_20 ?_
    refine lv_goto (tgt := 27) hx hb dX1_free_23 (by decide) ?_
    refine lv_lsub hx hb dX1_free_27 ?_
    refine lv_lstore_n (lv' := [(1, .long ((lN (dr / 10)) - (lN pa))), (0, .ref g0)]) hx hb dX1_free_28 rfl hl (by decide) rfl (fun ls hl => ?_)
    refine lv_lload_n hx hb dX1_free_29 rfl (lv_at hl 0 rfl) ?_
    refine lv_lconst (v := lN 0) hx hb dX1_free_30 (by decide +kernel) ?_
    refine nk_zlcmp_le (tgt := 39) hx hb (nk_subL (by omega) (by omega)) dX1_free_31 dX1_free_32 (by decide) (fun c31 => ?_) (fun c31 => ?_)
    · refine lv_lconst (v := lN 0) hx hb dX1_free_39 (by decide +kernel) ?_
      refine nk_topl (y := (lN (dr / 10 - (if pi = (d + 1 - gb) / 365 then pa else 0)))) (by rw [if_pos c16]; congr 1; omega) ?_
      exact W.lret hx hb hr (fun t ht hW => ⟨rfl, ht⟩) (fun z h => nomatch h) dX1_free_40
    · refine lv_lload_n hx hb dX1_free_35 rfl (lv_at hl 0 rfl) ?_
      refine nk_topl (y := (lN (dr / 10 - pa))) (lN_sub (by omega)) ?_
      refine lv_goto (tgt := 40) hx hb dX1_free_36 (by decide) ?_
      refine nk_topl (y := (lN (dr / 10 - (if pi = (d + 1 - gb) / 365 then pa else 0)))) (by rw [if_pos c16]) ?_
      exact W.lret hx hb hr (fun t ht hW => ⟨rfl, ht⟩) (fun z h => nomatch h) dX1_free_40
set_option maxHeartbeats 4000000 in
set_option maxRecDepth 100000 in
theorem c_X1_isWaived (l : Launch) (D : va_G) (g0 g1 g2 g3 g4 : Nat) (cI cJ : ClassId) (d r gb w rm lc k dr pn pa pi th : Nat) (ga e2 b rt : Nat → Nat)  (hlc : lc ≤ 2) (he2 : ∀ j, j < lc → e2 j ≤ 15001) (he2d : ∀ j, j < lc → e2 j ≤ d + 1) (hd : d ≤ 15000) : Met l yX1_isWaived wsX1_isWaived { frames := 0, cells := 0, slots := 0, locals := 0 } (nk_Pr D (wM g0 g1 g2 g3 g4 cI cJ d r gb w rm lc k dr pn pa pi th ga e2 b rt) (tX cI cJ) [.ref g0]) (nk_Rd (some (.int (nI (if 0 < mxE e2 lc ∧ d - (mxE e2 lc - 1) ≤ 1095 then 1 else 0))))) 0 0 (fun _ => False) := by
  refine Met.ofW (cc := cX1_isWaived) (maxL := 3) (ret := (some .boolean)) (by decide) rfl ?_
  intro p e s m args below meth c s₁ B hml hv
  obtain ⟨hargs, hP, hK⟩ := hv
  have hx := B.exec
  have hb := B.bytes
  have hr := B.returns
  have hts := atoms_spec (ws := wsX1_isWaived) B.pre
  have hown : s.vm.findClass RX1 = some m.cls := findClass_of_methodNamed B.named
  have hlocks := B.notSynchronized
  have hin : ∀ w ∈ wsX10, w ∈ wsX1_isWaived := by decide +kernel
  have f30 := hts (.fieldLink RX1 30 "EquityReleaseModel" "lives" "I") (by decide +kernel)
  have f40 := hts (.fieldLink RX1 40 "EquityReleaseModel" "day" "I") (by decide +kernel)
  have f17 := hts (.fieldLink RX1 17 "EquityReleaseModel" "ends" "[I") (by decide +kernel)
  have hl := lv_entry ([.ref g0]) (n := 3) (Nat.le_of_ble_eq_true rfl)
  have hEe : entryFrame m args 3 = entryFrame m ([.ref g0] : List Value).toArray 3 := by rw [hargs]
  rw [hEe, lg_entry_eq]
  generalize (lg_sl ([.ref g0]) ++ List.replicate (3 - (lg_sl ([.ref g0])).length) Slot.unset).toArray = ls at hl ⊢
  have hl : lv_has ls 3 [(0, .ref g0)] := hl
  refine lv_iconst (v := nI 0) hx hb dX1_isWaived_0 (by decide +kernel) ?_
  refine lv_istore_n (lv' := [(1, .int (nI 0)), (0, .ref g0)]) hx hb dX1_isWaived_1 rfl hl (by decide) rfl (fun ls hl => ?_)
  refine lv_iconst (v := nI 0) hx hb dX1_isWaived_2 (by decide +kernel) ?_
  refine lv_istore_n (lv' := [(2, .int (nI 0)), (1, .int (nI 0)), (0, .ref g0)]) hx hb dX1_isWaived_3 rfl hl (by decide) rfl (fun ls hl => ?_)
  have loop4 : ∀ (n : Nat) (i : Nat), (i ≤ lc) → lc + 1 ≤ i + n → ∀ ls : Array Slot, lv_has ls 3 [(0, .ref g0), (1, .int (nI (mxE e2 i))), (2, .int (nI i))] → W p l e (headSpec wsX1_isWaived { frames := 0, cells := 0, slots := 0, locals := 0 }).room s m args below meth c s.heap [] 0 0 (MQ below (nk_Rd (some (.int (nI (if 0 < mxE e2 lc ∧ d - (mxE e2 lc - 1) ≤ 1095 then 1 else 0))))) args s 0 0 (fun _ => False)) (F0 m 4 ls []) := by
    intro n
    induction n with
    | zero =>
      intro i hi hm
      exfalso; omega
    | succ n ih4 =>
      intro i hi hm ls hl
      refine lv_iload_n hx hb dX1_isWaived_4 rfl (lv_at hl 2 rfl) ?_
      refine lv_aload_n hx hb dX1_isWaived_5 rfl (lv_at hl 0 rfl) ?_
      refine va_get (D := D) (ci := 1) (v := .int (nI lc)) (C := RX1) (T := TX1) (N := 16) hx hb hts hin hown hK hP 0 rfl rfl 5 (by decide) f30 (fun _ h9 => h9) rfl dX1_isWaived_6 ?_
      refine nk_icmp_ge (tgt := 39) hx hb (by omega) (by omega) dX1_isWaived_9 (by decide) (fun c9 => ?_) (fun c9 => ?_)
      · have e9 : i = lc := by omega
        rw [e9] at hl
        have hm1 := mxE_le (f := e2) (M := d + 1) lc he2d
        refine lv_iload_n hx hb dX1_isWaived_39 rfl (lv_at hl 1 rfl) ?_
        refine nk_if_le (tgt := 61) hx hb (by omega) dX1_isWaived_40 (by decide) (fun c40 => ?_) (fun c40 => ?_)
        · refine lv_iconst (v := nI 0) hx hb dX1_isWaived_61 (by decide +kernel) ?_
          exact W.zret (ty := .boolean) hx hb hr rfl (fun t ht hW => ⟨by rw [if_neg (by omega)], ht⟩) (fun z h => nomatch h) dX1_isWaived_62
        · refine lv_aload_n hx hb dX1_isWaived_43 rfl (lv_at hl 0 rfl) ?_
          refine va_get (D := D) (ci := 1) (v := .int (nI d)) (C := RX1) (T := TX1) (N := 16) hx hb hts hin hown hK hP 0 rfl rfl 0 (by decide) f40 (fun _ h9 => h9) rfl dX1_isWaived_44 ?_
          refine lv_iload_n hx hb dX1_isWaived_47 rfl (lv_at hl 1 rfl) ?_
          refine lv_iconst (v := nI 1) hx hb dX1_isWaived_48 (by decide +kernel) ?_
          refine nk_isub hx hb (by omega) dX1_isWaived_49 ?_
          refine nk_isub hx hb (by omega) dX1_isWaived_50 ?_
          refine lv_sipush (v := nI 1095) hx hb dX1_isWaived_51 (by decide +kernel) ?_
          refine nk_icmp_gt (tgt := 61) hx hb (by omega) (by omega) dX1_isWaived_54 (by decide) (fun c54 => ?_) (fun c54 => ?_)
          · refine lv_iconst (v := nI 0) hx hb dX1_isWaived_61 (by decide +kernel) ?_
            exact W.zret (ty := .boolean) hx hb hr rfl (fun t ht hW => ⟨by rw [if_neg (by omega)], ht⟩) (fun z h => nomatch h) dX1_isWaived_62
          · refine lv_iconst (v := nI 1) hx hb dX1_isWaived_57 (by decide +kernel) ?_
            refine lv_goto (tgt := 62) hx hb dX1_isWaived_58 (by decide) ?_
            exact W.zret (ty := .boolean) hx hb hr rfl (fun t ht hW => ⟨by rw [if_pos ⟨c40, c54⟩], ht⟩) (fun z h => nomatch h) dX1_isWaived_62
      · have he1 := he2 i (by omega)
        have hm0 := mxE_le (f := e2) (M := 15001) i (fun j hj => he2 j (by omega))
        refine lv_aload_n hx hb dX1_isWaived_12 rfl (lv_at hl 0 rfl) ?_
        refine va_get (D := D) (ci := 1) (v := .ref g2) (C := RX1) (T := TX1) (N := 16) hx hb hts hin hown hK hP 0 rfl rfl 7 (by decide) f17 (fun _ h9 => h9) rfl dX1_isWaived_13 ?_
        refine lv_iload_n hx hb dX1_isWaived_16 rfl (lv_at hl 2 rfl) ?_
        refine nk_iald hx hb hK hP 2 0 rfl rfl (by omega) (by decide) dX1_isWaived_17 ?_
        refine lv_iload_n hx hb dX1_isWaived_18 rfl (lv_at hl 1 rfl) ?_
        refine nk_icmp_le (tgt := 31) hx hb (by omega) (by omega) dX1_isWaived_19 (by decide) (fun c19 => ?_) (fun c19 => ?_)
        · refine lv_iload_n hx hb dX1_isWaived_31 rfl (lv_at hl 1 rfl) ?_
          refine lv_istore_n (lv' := [(1, .int (nI (mxE e2 i))), (0, .ref g0), (2, .int (nI i))]) hx hb dX1_isWaived_32 rfl hl (by decide) rfl (fun ls hl => ?_)
          refine lv_iinc (v := (nI (i + 1))) (lv' := [(2, .int (nI (i + 1))), (1, .int (nI (mxE e2 i))), (0, .ref g0)]) hx hb dX1_isWaived_33 hl (k := 2) rfl (nI_1 _) (by decide) rfl (fun ls hl => ?_)
          refine lv_goto (tgt := 4) hx hb dX1_isWaived_36 (by decide) ?_
          have q9 : ((nI (mxE e2 (i + 1)))) = ((nI (mxE e2 i))) := (by show nI (max _ _) = _; rw [Nat.max_eq_left c19])
          have hl : lv_has ls 3 [(0, .ref g0), (1, .int (nI (mxE e2 (i + 1)))), (2, .int (nI (i + 1)))] := by
            rw [q9]
            exact lv_sub hl [2, 1, 0] rfl
          exact ih4 (i + 1) (by omega) (by omega) ls hl
        · refine lv_aload_n hx hb dX1_isWaived_22 rfl (lv_at hl 0 rfl) ?_
          refine va_get (D := D) (ci := 1) (v := .ref g2) (C := RX1) (T := TX1) (N := 16) hx hb hts hin hown hK hP 0 rfl rfl 7 (by decide) f17 (fun _ h9 => h9) rfl dX1_isWaived_23 ?_
          refine lv_iload_n hx hb dX1_isWaived_26 rfl (lv_at hl 2 rfl) ?_
          refine nk_iald hx hb hK hP 2 0 rfl rfl (by omega) (by decide) dX1_isWaived_27 ?_
          refine lv_goto (tgt := 32) hx hb dX1_isWaived_28 (by decide) ?_
          refine lv_istore_n (lv' := [(1, .int (nI (e2 i))), (0, .ref g0), (2, .int (nI i))]) hx hb dX1_isWaived_32 rfl hl (by decide) rfl (fun ls hl => ?_)
          refine lv_iinc (v := (nI (i + 1))) (lv' := [(2, .int (nI (i + 1))), (1, .int (nI (e2 i))), (0, .ref g0)]) hx hb dX1_isWaived_33 hl (k := 2) rfl (nI_1 _) (by decide) rfl (fun ls hl => ?_)
          refine lv_goto (tgt := 4) hx hb dX1_isWaived_36 (by decide) ?_
          have q9 : ((nI (mxE e2 (i + 1)))) = ((nI (e2 i))) := (by show nI (max _ _) = _; rw [Nat.max_eq_right (by omega)])
          have hl : lv_has ls 3 [(0, .ref g0), (1, .int (nI (mxE e2 (i + 1)))), (2, .int (nI (i + 1)))] := by
            rw [q9]
            exact lv_sub hl [2, 1, 0] rfl
          exact ih4 (i + 1) (by omega) (by omega) ls hl
  exact loop4 (lc + 1) 0 (by omega) (by omega) ls (lv_sub hl [2, 1, 0] rfl)
set_option maxHeartbeats 4000000 in
set_option maxRecDepth 100000 in
theorem c_X1_chargeFor (l : Launch) (D : va_G) (g0 g1 g2 g3 g4 : Nat) (cI cJ : ClassId) (d r gb w rm lc k dr pn pa pi th : Nat) (ga e2 b rt : Nat → Nat) (a9 : Nat) (ha9 : a9 ≤ 10000000) (hlc : lc ≤ 2) (he2 : ∀ j, j < lc → e2 j ≤ 15001) (he2d : ∀ j, j < lc → e2 j ≤ d + 1) (hgb : gb ≤ d + 1) (hd : d ≤ 15000) (hpi : pi ≤ 15000) (hdr : dr ≤ 1000000000) (hpa1 : pa ≤ 1000000000) : Met l yX1_chargeFor wsX1_chargeFor { frames := 2, cells := 0, slots := 0, locals := 42 } (nk_Pr D (wM g0 g1 g2 g3 g4 cI cJ d r gb w rm lc k dr pn pa pi th ga e2 b rt) (tX cI cJ) [.ref g0, .int (nI a9)]) (nk_Rd (some (.int (nI (chg (mxE e2 lc) d ((d + 1 - gb) / 365) dr (if pi = (d + 1 - gb) / 365 then pa else 0) a9))))) 0 0 (fun _ => False) := by
  refine Met.ofW (cc := cX1_chargeFor) (maxL := 5) (ret := (some .int)) (by decide) rfl ?_
  intro p e s m args below meth c s₁ B hml hv
  obtain ⟨hargs, hP, hK⟩ := hv
  have hx := B.exec
  have hb := B.bytes
  have hr := B.returns
  have hts := atoms_spec (ws := wsX1_chargeFor) B.pre
  have hown : s.vm.findClass RX1 = some m.cls := findClass_of_methodNamed B.named
  have hlocks := B.notSynchronized
  have hin : ∀ w ∈ wsX10, w ∈ wsX1_chargeFor := by decide +kernel
  have k46 : (Cond.constantLong RX1 46 (lN 100)).before args s = true := by
    rw [show (lN 100 : Int64) = 100 from by decide +kernel]
    exact hts (.constantLong RX1 46 (100)) (by decide +kernel)
  have hl := lv_entry ([.ref g0, .int (nI a9)]) (n := 5) (Nat.le_of_ble_eq_true rfl)
  have hEe : entryFrame m args 5 = entryFrame m ([.ref g0, .int (nI a9)] : List Value).toArray 5 := by rw [hargs]
  rw [hEe, lg_entry_eq]
  generalize (lg_sl ([.ref g0, .int (nI a9)]) ++ List.replicate (5 - (lg_sl ([.ref g0, .int (nI a9)])).length) Slot.unset).toArray = ls at hl ⊢
  have hl : lv_has ls 5 [(0, .ref g0), (1, .int (nI a9))] := hl
  refine lv_iload_n hx hb dX1_chargeFor_0 rfl (lv_at hl 1 rfl) ?_
  refine nk_i2l hx hb (by omega) dX1_chargeFor_1 ?_
  refine lv_aload_n hx hb dX1_chargeFor_2 rfl (lv_at hl 0 rfl) ?_
  refine nk_rd (W.runV (As := []) (rest := [.long (lN a9)]) ⟨hx, hb, hml, hown, hts⟩ (c_X1_free l D g0 g1 g2 g3 g4 cI cJ d r gb w rm lc k dr pn pa pi th ga e2 b rt hgb hd hpi hdr hpa1) (cwV 0 hts gX1_chargeFor_X1_free rfl rfl rfl (by decide +kernel) ⟨Nat.le_of_ble_eq_true rfl, Nat.le_of_ble_eq_true rfl⟩) ⟨nk_Pr.blind, va_recv hK hP (ci := 1) (q0 := 0) rfl rfl, fun U hU hW => ⟨rfl, by rw [hU]; exact hP, va_K.moved hW.alike hK⟩⟩ rfl rfl hl.1 rfl (lv_room (Nat.le_of_ble_eq_true rfl)) dX1_chargeFor_3 ⟨Nat.zero_le _, Nat.zero_le _⟩) ?_
  refine W.eq (g2 := F0 m 6 ls [.long (lN (dr / 10 - (if pi = (d + 1 - gb) / 365 then pa else 0))), .long (lN a9)]) rfl ?_
  refine lv_lsub hx hb dX1_chargeFor_6 ?_
  refine lv_lstore_n (lv' := [(2, .long ((lN a9) - (lN (dr / 10 - (if pi = (d + 1 - gb) / 365 then pa else 0))))), (0, .ref g0), (1, .int (nI a9))]) hx hb dX1_chargeFor_7 rfl hl (by decide) rfl (fun ls hl => ?_)
  refine lv_bipush (v := nI 10) hx hb dX1_chargeFor_8 (by decide +kernel) ?_
  refine lv_aload_n hx hb dX1_chargeFor_10 rfl (lv_at hl 1 rfl) ?_
  refine nk_rd (W.runV (As := []) (rest := [.int (nI 10)]) ⟨hx, hb, hml, hown, hts⟩ (c_X1_year l D g0 g1 g2 g3 g4 cI cJ d r gb w rm lc k dr pn pa pi th ga e2 b rt hgb hd) (cwV 0 hts gX1_chargeFor_X1_year rfl rfl rfl (by decide +kernel) ⟨Nat.le_of_ble_eq_true rfl, Nat.le_of_ble_eq_true rfl⟩) ⟨nk_Pr.blind, va_recv hK hP (ci := 1) (q0 := 0) rfl rfl, fun U hU hW => ⟨rfl, by rw [hU]; exact hP, va_K.moved hW.alike hK⟩⟩ rfl rfl hl.1 rfl (lv_room (Nat.le_of_ble_eq_true rfl)) dX1_chargeFor_11 ⟨Nat.zero_le _, Nat.zero_le _⟩) ?_
  refine W.eq (g2 := F0 m 14 ls [.int (nI ((d + 1 - gb) / 365)), .int (nI 10)]) rfl ?_
  refine lv_isub hx hb dX1_chargeFor_14 ?_
  refine lv_istore (lv' := [(4, .int ((nI 10) - (nI ((d + 1 - gb) / 365)))), (2, .long ((lN a9) - (lN (dr / 10 - (if pi = (d + 1 - gb) / 365 then pa else 0))))), (0, .ref g0), (1, .int (nI a9))]) hx hb dX1_chargeFor_15 hl (by decide) rfl (fun ls hl => ?_)
  refine lv_lload_n hx hb dX1_chargeFor_17 rfl (lv_at hl 1 rfl) ?_
  refine lv_lconst (v := lN 0) hx hb dX1_chargeFor_18 (by decide +kernel) ?_
  refine nk_zlcmp_le (tgt := 35) hx hb (nk_subL (by omega) (by omega)) dX1_chargeFor_19 dX1_chargeFor_20 (by decide) (fun c19 => ?_) (fun c19 => ?_)
  · refine lv_iconst (v := nI 0) hx hb dX1_chargeFor_35 (by decide +kernel) ?_
    refine lv_goto (tgt := 49) hx hb dX1_chargeFor_36 (by decide) ?_
    refine nk_topi (y := (nI (chg (mxE e2 lc) d ((d + 1 - gb) / 365) dr (if pi = (d + 1 - gb) / 365 then pa else 0) a9))) (by rw [chg_1 (by omega)]) ?_
    exact W.iret hx hb hr (fun t ht hW => ⟨rfl, ht⟩) (fun z h => nomatch h) dX1_chargeFor_49
  · refine lv_iload hx hb dX1_chargeFor_23 (lv_at hl 0 rfl) ?_
    refine nk_zle (tgt := 35) hx hb (nk_subI (by omega) (by omega)) dX1_chargeFor_25 (by decide) (fun c25 => ?_) (fun c25 => ?_)
    · refine lv_iconst (v := nI 0) hx hb dX1_chargeFor_35 (by decide +kernel) ?_
      refine lv_goto (tgt := 49) hx hb dX1_chargeFor_36 (by decide) ?_
      refine nk_topi (y := (nI (chg (mxE e2 lc) d ((d + 1 - gb) / 365) dr (if pi = (d + 1 - gb) / 365 then pa else 0) a9))) (by rw [chg_2 (by omega)]) ?_
      exact W.iret hx hb hr (fun t ht hW => ⟨rfl, ht⟩) (fun z h => nomatch h) dX1_chargeFor_49
    · refine lv_aload_n hx hb dX1_chargeFor_28 rfl (lv_at hl 2 rfl) ?_
      refine nk_rd (W.runV (As := []) (rest := []) ⟨hx, hb, hml, hown, hts⟩ (c_X1_isWaived l D g0 g1 g2 g3 g4 cI cJ d r gb w rm lc k dr pn pa pi th ga e2 b rt hlc he2 he2d hd) (cwV 0 hts gX1_chargeFor_X1_isWaived rfl rfl rfl (by decide +kernel) ⟨Nat.le_of_ble_eq_true rfl, Nat.le_of_ble_eq_true rfl⟩) ⟨nk_Pr.blind, va_recv hK hP (ci := 1) (q0 := 0) rfl rfl, fun U hU hW => ⟨rfl, by rw [hU]; exact hP, va_K.moved hW.alike hK⟩⟩ rfl rfl hl.1 rfl (lv_room (Nat.le_of_ble_eq_true rfl)) dX1_chargeFor_29 ⟨Nat.zero_le _, Nat.zero_le _⟩) ?_
      refine W.eq (g2 := F0 m 32 ls [.int (nI (if 0 < mxE e2 lc ∧ d - (mxE e2 lc - 1) ≤ 1095 then 1 else 0))]) rfl ?_
      refine nk_bif_eq (tgt := 39) hx hb dX1_chargeFor_32 (by decide) (fun c32 => ?_) (fun c32 => ?_)
      · refine lv_lload_n hx hb dX1_chargeFor_39 rfl (lv_at hl 1 rfl) ?_
        refine nk_topl (y := (lN (a9 - (dr / 10 - (if pi = (d + 1 - gb) / 365 then pa else 0))))) (lN_sub (by omega)) ?_
        refine lv_iload hx hb dX1_chargeFor_40 (lv_at hl 0 rfl) ?_
        refine nk_topi (y := (nI (10 - (d + 1 - gb) / 365))) (pk_sub (by omega)) ?_
        refine nk_i2l hx hb (by omega) dX1_chargeFor_42 ?_
        refine nk_lmul hx hb dX1_chargeFor_43 ?_
        have h9 : (a9 - (dr / 10 - (if pi = (d + 1 - gb) / 365 then pa else 0))) * (10 - (d + 1 - gb) / 365) ≤ 10000000 * 10 := Nat.mul_le_mul (by omega) (by omega)
        refine lv_ldc2 (v := lN 100) hx hb hown k46 dX1_chargeFor_44 ?_
        refine nk_ldiv hx hb (by omega) (by decide) (by decide) dX1_chargeFor_47 ?_
        refine nk_l2i hx hb dX1_chargeFor_48 ?_
        refine nk_topi (y := (nI (chg (mxE e2 lc) d ((d + 1 - gb) / 365) dr (if pi = (d + 1 - gb) / 365 then pa else 0) a9))) (by unfold chg; rw [if_neg c32]) ?_
        exact W.iret hx hb hr (fun t ht hW => ⟨rfl, ht⟩) (fun z h => nomatch h) dX1_chargeFor_49
      · refine lv_iconst (v := nI 0) hx hb dX1_chargeFor_35 (by decide +kernel) ?_
        refine lv_goto (tgt := 49) hx hb dX1_chargeFor_36 (by decide) ?_
        refine nk_topi (y := (nI (chg (mxE e2 lc) d ((d + 1 - gb) / 365) dr (if pi = (d + 1 - gb) / 365 then pa else 0) a9))) (by unfold chg; rw [if_pos c32]) ?_
        exact W.iret hx hb hr (fun t ht hW => ⟨rfl, ht⟩) (fun z h => nomatch h) dX1_chargeFor_49
set_option maxHeartbeats 4000000 in
set_option maxRecDepth 100000 in
theorem c_X1_owes (l : Launch) (D : va_G) (g0 g1 g2 g3 g4 : Nat) (cI cJ : ClassId) (d r gb w rm lc k dr pn pa pi th : Nat) (ga e2 b rt : Nat → Nat)  (hk : k ≤ 20) (hbs : sm b k < 4611686018427387904) (hw : w ≤ 10000000) : Met l yX1_owes wsX1_owes { frames := 1, cells := 0, slots := 0, locals := 23 } (nk_Pr D (wM g0 g1 g2 g3 g4 cI cJ d r gb w rm lc k dr pn pa pi th ga e2 b rt) (tX cI cJ) [.ref g0]) (nk_Rd (some (.long (lN (min (ceilA (sm b k)) w))))) 0 0 (fun _ => False) := by
  refine Met.ofW (cc := cX1_owes) (maxL := 1) (ret := (some .long)) (by decide) rfl ?_
  intro p e s m args below meth c s₁ B hml hv
  obtain ⟨hargs, hP, hK⟩ := hv
  have hx := B.exec
  have hb := B.bytes
  have hr := B.returns
  have hts := atoms_spec (ws := wsX1_owes) B.pre
  have hown : s.vm.findClass RX1 = some m.cls := findClass_of_methodNamed B.named
  have hlocks := B.notSynchronized
  have hin : ∀ w ∈ wsX10, w ∈ wsX1_owes := by decide +kernel
  have f69 := hts (.fieldLink RX1 69 "EquityReleaseModel" "worth" "I") (by decide +kernel)
  have hl := lv_entry ([.ref g0]) (n := 1) (Nat.le_of_ble_eq_true rfl)
  have hEe : entryFrame m args 1 = entryFrame m ([.ref g0] : List Value).toArray 1 := by rw [hargs]
  rw [hEe, lg_entry_eq]
  generalize (lg_sl ([.ref g0]) ++ List.replicate (1 - (lg_sl ([.ref g0])).length) Slot.unset).toArray = ls at hl ⊢
  have hl : lv_has ls 1 [(0, .ref g0)] := hl
  refine lv_aload_n hx hb dX1_owes_0 rfl (lv_at hl 0 rfl) ?_
  refine nk_rd (W.runV (As := []) (rest := []) ⟨hx, hb, hml, hown, hts⟩ (c_X1_all l D g0 g1 g2 g3 g4 cI cJ d r gb w rm lc k dr pn pa pi th ga e2 b rt hk) (cwV 0 hts gX1_owes_X1_all rfl rfl rfl (by decide +kernel) ⟨Nat.le_of_ble_eq_true rfl, Nat.le_of_ble_eq_true rfl⟩) ⟨nk_Pr.blind, va_recv hK hP (ci := 1) (q0 := 0) rfl rfl, fun U hU hW => ⟨rfl, by rw [hU]; exact hP, va_K.moved hW.alike hK⟩⟩ rfl rfl hl.1 rfl (lv_room (Nat.le_of_ble_eq_true rfl)) dX1_owes_1 ⟨Nat.zero_le _, Nat.zero_le _⟩) ?_
  refine W.eq (g2 := F0 m 4 ls [.long (lN (sm b k))]) rfl ?_
  refine nk_rd (W.runS (As := [.long (lN (sm b k))]) (rest := []) ⟨hx, hb, hml, hown, hts⟩ (c_X1_up l (sm b k) (by omega)) (va_cwS 1 hts gX1_owes_X1_up rfl rfl rfl (by decide +kernel) ⟨Nat.le_of_ble_eq_true rfl, Nat.le_of_ble_eq_true rfl⟩) ⟨nk_P0.blind, fun U hU hW => ⟨rfl, trivial⟩⟩ rfl rfl hl.1 rfl (lv_room (Nat.le_of_ble_eq_true rfl)) dX1_owes_4 ⟨Nat.zero_le _, Nat.zero_le _⟩) ?_
  refine W.eq (g2 := F0 m 7 ls [.long (lN (ceilA (sm b k)))]) rfl ?_
  refine lv_aload_n hx hb dX1_owes_7 rfl (lv_at hl 0 rfl) ?_
  refine va_get (D := D) (ci := 1) (v := .int (nI w)) (C := RX1) (T := TX1) (N := 16) hx hb hts hin hown hK hP 0 rfl rfl 3 (by decide) f69 (fun _ h9 => h9) rfl dX1_owes_8 ?_
  refine nk_i2l hx hb (by omega) dX1_owes_11 ?_
  have hc9 : ceilA (sm b k) < 4611686018427387904 := by unfold ceilA; omega
  refine nk_lcmp_ge (tgt := 26) hx hb (by omega) (by omega) dX1_owes_12 dX1_owes_13 (by decide) (fun c12 => ?_) (fun c12 => ?_)
  · refine lv_aload_n hx hb dX1_owes_26 rfl (lv_at hl 0 rfl) ?_
    refine va_get (D := D) (ci := 1) (v := .int (nI w)) (C := RX1) (T := TX1) (N := 16) hx hb hts hin hown hK hP 0 rfl rfl 3 (by decide) f69 (fun _ h9 => h9) rfl dX1_owes_27 ?_
    refine nk_i2l hx hb (by omega) dX1_owes_30 ?_
    refine nk_topl (y := (lN (min (ceilA (sm b k)) w))) (by rw [Nat.min_eq_right c12]) ?_
    exact W.lret hx hb hr (fun t ht hW => ⟨rfl, ht⟩) (fun z h => nomatch h) dX1_owes_31
  · refine lv_aload_n hx hb dX1_owes_16 rfl (lv_at hl 0 rfl) ?_
    refine nk_rd (W.runV (As := []) (rest := []) ⟨hx, hb, hml, hown, hts⟩ (c_X1_all l D g0 g1 g2 g3 g4 cI cJ d r gb w rm lc k dr pn pa pi th ga e2 b rt hk) (cwV 0 hts gX1_owes_X1_all rfl rfl rfl (by decide +kernel) ⟨Nat.le_of_ble_eq_true rfl, Nat.le_of_ble_eq_true rfl⟩) ⟨nk_Pr.blind, va_recv hK hP (ci := 1) (q0 := 0) rfl rfl, fun U hU hW => ⟨rfl, by rw [hU]; exact hP, va_K.moved hW.alike hK⟩⟩ rfl rfl hl.1 rfl (lv_room (Nat.le_of_ble_eq_true rfl)) dX1_owes_17 ⟨Nat.zero_le _, Nat.zero_le _⟩) ?_
    refine W.eq (g2 := F0 m 20 ls [.long (lN (sm b k))]) rfl ?_
    refine nk_rd (W.runS (As := [.long (lN (sm b k))]) (rest := []) ⟨hx, hb, hml, hown, hts⟩ (c_X1_up l (sm b k) (by omega)) (va_cwS 1 hts gX1_owes_X1_up rfl rfl rfl (by decide +kernel) ⟨Nat.le_of_ble_eq_true rfl, Nat.le_of_ble_eq_true rfl⟩) ⟨nk_P0.blind, fun U hU hW => ⟨rfl, trivial⟩⟩ rfl rfl hl.1 rfl (lv_room (Nat.le_of_ble_eq_true rfl)) dX1_owes_20 ⟨Nat.zero_le _, Nat.zero_le _⟩) ?_
    refine W.eq (g2 := F0 m 23 ls [.long (lN (ceilA (sm b k)))]) rfl ?_
    refine lv_goto (tgt := 31) hx hb dX1_owes_23 (by decide) ?_
    refine nk_topl (y := (lN (min (ceilA (sm b k)) w))) (by rw [Nat.min_eq_left (by omega)]) ?_
    exact W.lret hx hb hr (fun t ht hW => ⟨rfl, ht⟩) (fun z h => nomatch h) dX1_owes_31
