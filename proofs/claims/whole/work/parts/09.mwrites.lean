set_option maxHeartbeats 4000000 in
set_option maxRecDepth 100000 in
theorem c_X1_fails (l : Launch) (D : va_G) (g0 g1 g2 g3 g4 : Nat) (cI cJ : ClassId) (d r gb w rm lc k dr pn pa pi th : Nat) (ga e2 b rt : Nat → Nat) (sz : Nat) (a9 : Nat)  : Met l yX1_fails wsX1_fails { frames := 0, cells := 0, slots := 0, locals := 0 } (nk_Pw D (wM g0 g1 g2 g3 g4 cI cJ d r gb w rm lc k dr pn pa pi th ga e2 b rt) (tX cI cJ) sz [.ref g0, .int (nI a9)]) (va_Qi (fun r9 w1 => r9 = nI 0 ∧ w1 = wM g0 g1 g2 g3 g4 cI cJ d r gb w rm lc k dr pn pa pi a9 ga e2 b rt) (fun w1 t => nk_At D (tX cI cJ) (va_A (wM g0 g1 g2 g3 g4 cI cJ d r gb w rm lc k dr pn pa pi th ga e2 b rt) sz) w1 t) (va_A (wM g0 g1 g2 g3 g4 cI cJ d r gb w rm lc k dr pn pa pi th ga e2 b rt) sz)) 0 0 (va_A (wM g0 g1 g2 g3 g4 cI cJ d r gb w rm lc k dr pn pa pi th ga e2 b rt) sz) := by
  refine Met.ofW (cc := cX1_fails) (maxL := 2) (ret := (some .int)) (by decide) rfl ?_
  intro p e s m args below meth c s₁ B hml hv
  obtain ⟨hargs, hsz, hP, hK, hD0⟩ := hv
  have hx := B.exec
  have hb := B.bytes
  have hr := B.returns
  have hts := atoms_spec (ws := wsX1_fails) B.pre
  have hown : s.vm.findClass RX1 = some m.cls := findClass_of_methodNamed B.named
  have hlocks := B.notSynchronized
  subst hsz
  have hin : ∀ w ∈ wsX10, w ∈ wsX1_fails := by decide +kernel
  have hD := hD0.self (sz := s.heap.size)
  generalize hAe : va_A (wM g0 g1 g2 g3 g4 cI cJ d r gb w rm lc k dr pn pa pi th ga e2 b rt) s.heap.size = A at hD ⊢
  have hA : ∀ q : Nat, s.heap.size ≤ q → A q := fun q h => by rw [← hAe]; exact Or.inr h
  have hS : va_S A s.heap s.heap [] := va_S.rf
  have f27 := hts (.fieldLink RX1 27 "EquityReleaseModel" "thrown" "I") (by decide +kernel)
  have hl := lv_entry ([.ref g0, .int (nI a9)]) (n := 2) (Nat.le_of_ble_eq_true rfl)
  have hEe : entryFrame m args 2 = entryFrame m ([.ref g0, .int (nI a9)] : List Value).toArray 2 := by rw [hargs]
  rw [hEe, lg_entry_eq]
  generalize (lg_sl ([.ref g0, .int (nI a9)]) ++ List.replicate (2 - (lg_sl ([.ref g0, .int (nI a9)])).length) Slot.unset).toArray = ls at hl ⊢
  have hl : lv_has ls 2 [(0, .ref g0), (1, .int (nI a9))] := hl
  refine lv_aload_n hx hb dX1_fails_0 rfl (lv_at hl 0 rfl) ?_
  refine lv_iload_n hx hb dX1_fails_1 rfl (lv_at hl 1 rfl) ?_
  refine va_put (D := D) (ci := 1) (v := .int (nI a9)) (ty := .int) (C := RX1) (T := TX1) (N := 16) hx hb hts hin tyX1 tyX1_ok nmX1 hown hK hP hD hS 0 rfl rfl 15 (by decide) f27 (fun _ h9 => h9) rfl (by decide +kernel) rfl rfl (Nat.le_of_ble_eq_true rfl) dX1_fails_2 (fun H locs hP hD hS => ?_)
  have hP : va_P D vwCl (wM g0 g1 g2 g3 g4 cI cJ d r gb w rm lc k dr pn pa pi a9 ga e2 b rt) H := hP
  have hD : va_D A (wM g0 g1 g2 g3 g4 cI cJ d r gb w rm lc k dr pn pa pi a9 ga e2 b rt) := hD
  refine lv_iconst (v := nI 0) hx hb dX1_fails_5 (by decide +kernel) ?_
  exact W.iret (v := (nI 0)) hx hb hr (fun t ht hW => ⟨⟨(nI 0), wM g0 g1 g2 g3 g4 cI cJ d r gb w rm lc k dr pn pa pi a9 ga e2 b rt, rfl, ⟨rfl, rfl⟩, by rw [ht]; exact hP, va_K.moved hW.alike hK, hD⟩, hS.F ht⟩) hS.2.2 dX1_fails_6
set_option maxHeartbeats 4000000 in
set_option maxRecDepth 100000 in
theorem c_X1_draws (l : Launch) (D : va_G) (g0 g1 g2 g3 g4 : Nat) (cI cJ : ClassId) (d r gb w rm lc k dr pn pa pi th : Nat) (ga e2 b rt : Nat → Nat) (sz : Nat) (a9 : Nat) (hk1 : k < 20) (ha9 : a9 ≤ 10000000) : Met l yX1_draws wsX1_draws { frames := 0, cells := 0, slots := 0, locals := 0 } (nk_Pw D (wM g0 g1 g2 g3 g4 cI cJ d r gb w rm lc k dr pn pa pi th ga e2 b rt) (tX cI cJ) sz [.ref g0, .int (nI a9)]) (va_Qv (fun w1 => w1 = wM g0 g1 g2 g3 g4 cI cJ d r gb w rm lc (k + 1) (dr + a9) pn pa pi th ga e2 (va_up b k (a9 * 10000)) (va_up rt k r)) (fun w1 t => nk_At D (tX cI cJ) (va_A (wM g0 g1 g2 g3 g4 cI cJ d r gb w rm lc k dr pn pa pi th ga e2 b rt) sz) w1 t) (va_A (wM g0 g1 g2 g3 g4 cI cJ d r gb w rm lc k dr pn pa pi th ga e2 b rt) sz)) 0 0 (va_A (wM g0 g1 g2 g3 g4 cI cJ d r gb w rm lc k dr pn pa pi th ga e2 b rt) sz) := by
  refine Met.ofW (cc := cX1_draws) (maxL := 2) (ret := none) (by decide) rfl ?_
  intro p e s m args below meth c s₁ B hml hv
  obtain ⟨hargs, hsz, hP, hK, hD0⟩ := hv
  have hx := B.exec
  have hb := B.bytes
  have hr := B.returns
  have hts := atoms_spec (ws := wsX1_draws) B.pre
  have hown : s.vm.findClass RX1 = some m.cls := findClass_of_methodNamed B.named
  have hlocks := B.notSynchronized
  subst hsz
  have hin : ∀ w ∈ wsX10, w ∈ wsX1_draws := by decide +kernel
  have hD := hD0.self (sz := s.heap.size)
  generalize hAe : va_A (wM g0 g1 g2 g3 g4 cI cJ d r gb w rm lc k dr pn pa pi th ga e2 b rt) s.heap.size = A at hD ⊢
  have hA : ∀ q : Nat, s.heap.size ≤ q → A q := fun q h => by rw [← hAe]; exact Or.inr h
  have hS : va_S A s.heap s.heap [] := va_S.rf
  have f20 := hts (.fieldLink RX1 20 "EquityReleaseModel" "balances" "[J") (by decide +kernel)
  have f48 := hts (.fieldLink RX1 48 "EquityReleaseModel" "drawings" "I") (by decide +kernel)
  have k51 : (Cond.constantLong RX1 51 (lN 10000)).before args s = true := by
    rw [show (lN 10000 : Int64) = 10000 from by decide +kernel]
    exact hts (.constantLong RX1 51 (10000)) (by decide +kernel)
  have f24 := hts (.fieldLink RX1 24 "EquityReleaseModel" "rates" "[I") (by decide +kernel)
  have f7 := hts (.fieldLink RX1 7 "EquityReleaseModel" "rate" "I") (by decide +kernel)
  have f53 := hts (.fieldLink RX1 53 "EquityReleaseModel" "drawn" "J") (by decide +kernel)
  have hl := lv_entry ([.ref g0, .int (nI a9)]) (n := 2) (Nat.le_of_ble_eq_true rfl)
  have hEe : entryFrame m args 2 = entryFrame m ([.ref g0, .int (nI a9)] : List Value).toArray 2 := by rw [hargs]
  rw [hEe, lg_entry_eq]
  generalize (lg_sl ([.ref g0, .int (nI a9)]) ++ List.replicate (2 - (lg_sl ([.ref g0, .int (nI a9)])).length) Slot.unset).toArray = ls at hl ⊢
  have hl : lv_has ls 2 [(0, .ref g0), (1, .int (nI a9))] := hl
  refine lv_aload_n hx hb dX1_draws_0 rfl (lv_at hl 0 rfl) ?_
  refine va_get (D := D) (ci := 1) (v := .ref g3) (C := RX1) (T := TX1) (N := 16) hx hb hts hin hown hK hP 0 rfl rfl 9 (by decide) f20 (fun _ h9 => h9) rfl dX1_draws_1 ?_
  refine lv_aload_n hx hb dX1_draws_4 rfl (lv_at hl 0 rfl) ?_
  refine va_get (D := D) (ci := 1) (v := .int (nI k)) (C := RX1) (T := TX1) (N := 16) hx hb hts hin hown hK hP 0 rfl rfl 8 (by decide) f48 (fun _ h9 => h9) rfl dX1_draws_5 ?_
  refine lv_ldc2 (v := lN 10000) hx hb hown k51 dX1_draws_8 ?_
  refine lv_iload_n hx hb dX1_draws_11 rfl (lv_at hl 1 rfl) ?_
  refine nk_i2l hx hb (by omega) dX1_draws_12 ?_
  refine nk_lmul hx hb dX1_draws_13 ?_
  refine nk_topl (y := (lN (a9 * 10000))) (congrArg lN (Nat.mul_comm _ _)) ?_
  refine nk_last hx hb hK hP hD hS 3 1 rfl rfl (by omega) (by decide) dX1_draws_14 (fun H locs hP hD hS => ?_)
  have hP : va_P D vwCl (wM g0 g1 g2 g3 g4 cI cJ d r gb w rm lc k dr pn pa pi th ga e2 (va_up b k (a9 * 10000)) rt) H := hP
  have hD : va_D A (wM g0 g1 g2 g3 g4 cI cJ d r gb w rm lc k dr pn pa pi th ga e2 (va_up b k (a9 * 10000)) rt) := hD
  refine lv_aload_n hx hb dX1_draws_15 rfl (lv_at hl 0 rfl) ?_
  refine va_get (D := D) (ci := 1) (v := .ref g4) (C := RX1) (T := TX1) (N := 16) hx hb hts hin hown hK hP 0 rfl rfl 10 (by decide) f24 (fun _ h9 => h9) rfl dX1_draws_16 ?_
  refine lv_aload_n hx hb dX1_draws_19 rfl (lv_at hl 0 rfl) ?_
  refine va_get (D := D) (ci := 1) (v := .int (nI k)) (C := RX1) (T := TX1) (N := 16) hx hb hts hin hown hK hP 0 rfl rfl 8 (by decide) f48 (fun _ h9 => h9) rfl dX1_draws_20 ?_
  refine lv_aload_n hx hb dX1_draws_23 rfl (lv_at hl 0 rfl) ?_
  refine va_get (D := D) (ci := 1) (v := .int (nI r)) (C := RX1) (T := TX1) (N := 16) hx hb hts hin hown hK hP 0 rfl rfl 1 (by decide) f7 (fun _ h9 => h9) rfl dX1_draws_24 ?_
  refine nk_iast hx hb hK hP hD hS 4 0 rfl rfl (by omega) (by decide) dX1_draws_27 (fun H locs hP hD hS => ?_)
  have hP : va_P D vwCl (wM g0 g1 g2 g3 g4 cI cJ d r gb w rm lc k dr pn pa pi th ga e2 (va_up b k (a9 * 10000)) (va_up rt k r)) H := hP
  have hD : va_D A (wM g0 g1 g2 g3 g4 cI cJ d r gb w rm lc k dr pn pa pi th ga e2 (va_up b k (a9 * 10000)) (va_up rt k r)) := hD
  refine lv_aload_n hx hb dX1_draws_28 rfl (lv_at hl 0 rfl) ?_
  refine lv_dup hx hb dX1_draws_29 rfl ?_
  refine va_get (D := D) (ci := 1) (v := .int (nI k)) (C := RX1) (T := TX1) (N := 16) hx hb hts hin hown hK hP 0 rfl rfl 8 (by decide) f48 (fun _ h9 => h9) rfl dX1_draws_30 ?_
  refine lv_iconst (v := nI 1) hx hb dX1_draws_33 (by decide +kernel) ?_
  refine nk_iadd hx hb dX1_draws_34 ?_
  refine va_put (D := D) (ci := 1) (v := .int (nI (k + 1))) (ty := .int) (C := RX1) (T := TX1) (N := 16) hx hb hts hin tyX1 tyX1_ok nmX1 hown hK hP hD hS 0 rfl rfl 8 (by decide) f48 (fun _ h9 => h9) rfl (by decide +kernel) rfl rfl (Nat.le_of_ble_eq_true rfl) dX1_draws_35 (fun H locs hP hD hS => ?_)
  have hP : va_P D vwCl (wM g0 g1 g2 g3 g4 cI cJ d r gb w rm lc (k + 1) dr pn pa pi th ga e2 (va_up b k (a9 * 10000)) (va_up rt k r)) H := hP
  have hD : va_D A (wM g0 g1 g2 g3 g4 cI cJ d r gb w rm lc (k + 1) dr pn pa pi th ga e2 (va_up b k (a9 * 10000)) (va_up rt k r)) := hD
  refine lv_aload_n hx hb dX1_draws_38 rfl (lv_at hl 0 rfl) ?_
  refine lv_dup hx hb dX1_draws_39 rfl ?_
  refine va_get (D := D) (ci := 1) (v := .long (lN dr)) (C := RX1) (T := TX1) (N := 16) hx hb hts hin hown hK hP 0 rfl rfl 11 (by decide) f53 (fun _ h9 => h9) rfl dX1_draws_40 ?_
  refine lv_iload_n hx hb dX1_draws_43 rfl (lv_at hl 1 rfl) ?_
  refine nk_i2l hx hb (by omega) dX1_draws_44 ?_
  refine nk_ladd hx hb dX1_draws_45 ?_
  refine va_put (D := D) (ci := 1) (v := .long (lN (dr + a9))) (ty := .long) (C := RX1) (T := TX1) (N := 16) hx hb hts hin tyX1 tyX1_ok nmX1 hown hK hP hD hS 0 rfl rfl 11 (by decide) f53 (fun _ h9 => h9) rfl (by decide +kernel) rfl rfl (Nat.le_of_ble_eq_true rfl) dX1_draws_46 (fun H locs hP hD hS => ?_)
  have hP : va_P D vwCl (wM g0 g1 g2 g3 g4 cI cJ d r gb w rm lc (k + 1) (dr + a9) pn pa pi th ga e2 (va_up b k (a9 * 10000)) (va_up rt k r)) H := hP
  have hD : va_D A (wM g0 g1 g2 g3 g4 cI cJ d r gb w rm lc (k + 1) (dr + a9) pn pa pi th ga e2 (va_up b k (a9 * 10000)) (va_up rt k r)) := hD
  exact W.vret hx hb hr (fun t ht hW => ⟨⟨wM g0 g1 g2 g3 g4 cI cJ d r gb w rm lc (k + 1) (dr + a9) pn pa pi th ga e2 (va_up b k (a9 * 10000)) (va_up rt k r), rfl, rfl, by rw [ht]; exact hP, va_K.moved hW.alike hK, hD⟩, hS.F ht⟩) hS.2.2 dX1_draws_49
set_option maxHeartbeats 4000000 in
set_option maxRecDepth 100000 in
theorem c_X1_takes (l : Launch) (D : va_G) (g0 g1 g2 g3 g4 : Nat) (cI cJ : ClassId) (d r gb w rm lc k dr pn pa pi th : Nat) (ga e2 b rt : Nat → Nat) (sz : Nat) (a9 : Nat) (hk : k ≤ 20) (ha9 : a9 < 400000000000000) (hb9 : ∀ j, j < k → b j < 4611686018427387904) : Met l yX1_takes wsX1_takes { frames := 0, cells := 0, slots := 0, locals := 0 } (nk_Pw D (wM g0 g1 g2 g3 g4 cI cJ d r gb w rm lc k dr pn pa pi th ga e2 b rt) (tX cI cJ) sz [.ref g0, .long (lN a9)]) (va_Qv (fun w1 => w1 = wM g0 g1 g2 g3 g4 cI cJ d r gb w rm lc k dr pn pa pi th ga e2 (tkB b (a9 * 10000) k) rt) (fun w1 t => nk_At D (tX cI cJ) (va_A (wM g0 g1 g2 g3 g4 cI cJ d r gb w rm lc k dr pn pa pi th ga e2 b rt) sz) w1 t) (va_A (wM g0 g1 g2 g3 g4 cI cJ d r gb w rm lc k dr pn pa pi th ga e2 b rt) sz)) 0 0 (va_A (wM g0 g1 g2 g3 g4 cI cJ d r gb w rm lc k dr pn pa pi th ga e2 b rt) sz) := by
  refine Met.ofW (cc := cX1_takes) (maxL := 8) (ret := none) (by decide) rfl ?_
  intro p e s m args below meth c s₁ B hml hv
  obtain ⟨hargs, hsz, hP, hK, hD0⟩ := hv
  have hx := B.exec
  have hb := B.bytes
  have hr := B.returns
  have hts := atoms_spec (ws := wsX1_takes) B.pre
  have hown : s.vm.findClass RX1 = some m.cls := findClass_of_methodNamed B.named
  have hlocks := B.notSynchronized
  subst hsz
  have hin : ∀ w ∈ wsX10, w ∈ wsX1_takes := by decide +kernel
  have hD := hD0.self (sz := s.heap.size)
  generalize hAe : va_A (wM g0 g1 g2 g3 g4 cI cJ d r gb w rm lc k dr pn pa pi th ga e2 b rt) s.heap.size = A at hD ⊢
  have hA : ∀ q : Nat, s.heap.size ≤ q → A q := fun q h => by rw [← hAe]; exact Or.inr h
  have hS : va_S A s.heap s.heap [] := va_S.rf
  have k51 : (Cond.constantLong RX1 51 (lN 10000)).before args s = true := by
    rw [show (lN 10000 : Int64) = 10000 from by decide +kernel]
    exact hts (.constantLong RX1 51 (10000)) (by decide +kernel)
  have f48 := hts (.fieldLink RX1 48 "EquityReleaseModel" "drawings" "I") (by decide +kernel)
  have f20 := hts (.fieldLink RX1 20 "EquityReleaseModel" "balances" "[J") (by decide +kernel)
  have hl := lv_entry ([.ref g0, .long (lN a9)]) (n := 8) (Nat.le_of_ble_eq_true rfl)
  have hEe : entryFrame m args 8 = entryFrame m ([.ref g0, .long (lN a9)] : List Value).toArray 8 := by rw [hargs]
  rw [hEe, lg_entry_eq]
  generalize (lg_sl ([.ref g0, .long (lN a9)]) ++ List.replicate (8 - (lg_sl ([.ref g0, .long (lN a9)])).length) Slot.unset).toArray = ls at hl ⊢
  have hl : lv_has ls 8 [(0, .ref g0), (1, .long (lN a9))] := hl
  refine lv_ldc2 (v := lN 10000) hx hb hown k51 dX1_takes_0 ?_
  refine lv_lload_n hx hb dX1_takes_3 rfl (lv_at hl 1 rfl) ?_
  refine nk_lmul hx hb dX1_takes_4 ?_
  refine nk_topl (y := (lN (a9 * 10000))) (congrArg lN (Nat.mul_comm _ _)) ?_
  refine lv_lstore_n (lv' := [(3, .long (lN (a9 * 10000))), (0, .ref g0), (1, .long (lN a9))]) hx hb dX1_takes_5 rfl hl (by decide) rfl (fun ls hl => ?_)
  refine lv_iconst (v := nI 0) hx hb dX1_takes_6 (by decide +kernel) ?_
  refine lv_istore (lv' := [(5, .int (nI 0)), (3, .long (lN (a9 * 10000))), (0, .ref g0), (1, .long (lN a9))]) hx hb dX1_takes_7 hl (by decide) rfl (fun ls hl => ?_)
  have loop9 : ∀ (n : Nat) (i : Nat), (i ≤ k) → k + 1 ≤ i + n → ∀ (H : Heap) (locs : List Loc), va_P D vwCl (wM g0 g1 g2 g3 g4 cI cJ d r gb w rm lc k dr pn pa pi th ga e2 (tkB b (a9 * 10000) i) rt) H → va_D A (wM g0 g1 g2 g3 g4 cI cJ d r gb w rm lc k dr pn pa pi th ga e2 (tkB b (a9 * 10000) i) rt) → va_S A s.heap H locs → ∀ ls : Array Slot, lv_has ls 8 [(0, .ref g0), (1, .long (lN a9)), (3, .long (lN (tkR b (a9 * 10000) i))), (5, .int (nI i))] → W p l e (headSpec wsX1_takes { frames := 0, cells := 0, slots := 0, locals := 0 }).room s m args below meth c H locs 0 0 (MQ below (va_Qv (fun w1 => w1 = wM g0 g1 g2 g3 g4 cI cJ d r gb w rm lc k dr pn pa pi th ga e2 (tkB b (a9 * 10000) k) rt) (fun w1 t => nk_At D (tX cI cJ) A w1 t) A) args s 0 0 A) (F0 m 9 ls []) := by
    intro n
    induction n with
    | zero =>
      intro i hi hm
      exfalso; omega
    | succ n ih9 =>
      intro i hi hm H locs hP hD hS ls hl
      refine lv_iload hx hb dX1_takes_9 (lv_at hl 3 rfl) ?_
      refine lv_aload_n hx hb dX1_takes_11 rfl (lv_at hl 0 rfl) ?_
      refine va_get (D := D) (ci := 1) (v := .int (nI k)) (C := RX1) (T := TX1) (N := 16) hx hb hts hin hown hK hP 0 rfl rfl 8 (by decide) f48 (fun _ h9 => h9) rfl dX1_takes_12 ?_
      refine nk_icmp_ge (tgt := 66) hx hb (by omega) (by omega) dX1_takes_15 (by decide) (fun c15 => ?_) (fun c15 => ?_)
      · have e9 : i = k := by omega
        rw [e9] at hP hD
        exact W.vret hx hb hr (fun t ht hW => ⟨⟨wM g0 g1 g2 g3 g4 cI cJ d r gb w rm lc k dr pn pa pi th ga e2 (tkB b (a9 * 10000) k) rt, rfl, rfl, by rw [ht]; exact hP, va_K.moved hW.alike hK, hD⟩, hS.F ht⟩) hS.2.2 dX1_takes_66
      · refine lv_aload_n hx hb dX1_takes_18 rfl (lv_at hl 0 rfl) ?_
        refine va_get (D := D) (ci := 1) (v := .ref g3) (C := RX1) (T := TX1) (N := 16) hx hb hts hin hown hK hP 0 rfl rfl 9 (by decide) f20 (fun _ h9 => h9) rfl dX1_takes_19 ?_
        refine lv_iload hx hb dX1_takes_22 (lv_at hl 3 rfl) ?_
        refine nk_lald hx hb hK hP 3 1 rfl rfl (by omega) (by decide) dX1_takes_24 ?_
        refine nk_topl (y := (lN (b i))) (congrArg lN (tkB_self _ _ _)) ?_
        refine lv_lload_n hx hb dX1_takes_25 rfl (lv_at hl 2 rfl) ?_
        have hr1 := tkR_le b (a9 * 10000) i
        have hb1 := hb9 i (by omega)
        refine nk_lcmp_ge (tgt := 40) hx hb (by omega) (by omega) dX1_takes_26 dX1_takes_27 (by decide) (fun c26 => ?_) (fun c26 => ?_)
        · refine lv_lload_n hx hb dX1_takes_40 rfl (lv_at hl 2 rfl) ?_
          refine lv_lstore (lv' := [(6, .long (lN (tkR b (a9 * 10000) i))), (0, .ref g0), (1, .long (lN a9)), (3, .long (lN (tkR b (a9 * 10000) i))), (5, .int (nI i))]) hx hb dX1_takes_41 hl (by decide) rfl (fun ls hl => ?_)
          refine lv_aload_n hx hb dX1_takes_43 rfl (lv_at hl 1 rfl) ?_
          refine va_get (D := D) (ci := 1) (v := .ref g3) (C := RX1) (T := TX1) (N := 16) hx hb hts hin hown hK hP 0 rfl rfl 9 (by decide) f20 (fun _ h9 => h9) rfl dX1_takes_44 ?_
          refine lv_iload hx hb dX1_takes_47 (lv_at hl 4 rfl) ?_
          refine lv_dup2_11 hx hb dX1_takes_49 rfl rfl ?_
          refine nk_lald hx hb hK hP 3 1 rfl rfl (by omega) (by decide) dX1_takes_50 ?_
          refine nk_topl (y := (lN (b i))) (congrArg lN (tkB_self _ _ _)) ?_
          refine lv_lload hx hb dX1_takes_51 (lv_at hl 0 rfl) ?_
          refine nk_lsub hx hb (by omega) dX1_takes_53 ?_
          refine nk_last hx hb hK hP hD hS 3 1 rfl rfl (by omega) (by decide) dX1_takes_54 (fun H locs hP hD hS => ?_)
          have hP : va_P D vwCl (wM g0 g1 g2 g3 g4 cI cJ d r gb w rm lc k dr pn pa pi th ga e2 (va_up (tkB b (a9 * 10000) i) i ((b i) - (tkR b (a9 * 10000) i))) rt) H := hP
          have hD : va_D A (wM g0 g1 g2 g3 g4 cI cJ d r gb w rm lc k dr pn pa pi th ga e2 (va_up (tkB b (a9 * 10000) i) i ((b i) - (tkR b (a9 * 10000) i))) rt) := hD
          rw [tkB_s1 c26] at hP hD
          refine lv_lload_n hx hb dX1_takes_55 rfl (lv_at hl 3 rfl) ?_
          refine lv_lload hx hb dX1_takes_56 (lv_at hl 0 rfl) ?_
          refine nk_lsub hx hb (by omega) dX1_takes_58 ?_
          refine lv_lstore_n (lv' := [(3, .long (lN ((tkR b (a9 * 10000) i) - (tkR b (a9 * 10000) i)))), (6, .long (lN (tkR b (a9 * 10000) i))), (0, .ref g0), (1, .long (lN a9)), (5, .int (nI i))]) hx hb dX1_takes_59 rfl hl (by decide) rfl (fun ls hl => ?_)
          refine lv_iinc (v := (nI (i + 1))) (lv' := [(5, .int (nI (i + 1))), (3, .long (lN ((tkR b (a9 * 10000) i) - (tkR b (a9 * 10000) i)))), (6, .long (lN (tkR b (a9 * 10000) i))), (0, .ref g0), (1, .long (lN a9))]) hx hb dX1_takes_60 hl (k := 4) rfl (nI_1 _) (by decide) rfl (fun ls hl => ?_)
          refine lv_goto (tgt := 9) hx hb dX1_takes_63 (by decide) ?_
          have q9 : ((lN (tkR b (a9 * 10000) (i + 1)))) = ((lN ((tkR b (a9 * 10000) i) - (tkR b (a9 * 10000) i)))) := (congrArg lN (by have q8 := tkR_s b (a9 * 10000) i; omega))
          have hl : lv_has ls 8 [(0, .ref g0), (1, .long (lN a9)), (3, .long (lN (tkR b (a9 * 10000) (i + 1)))), (5, .int (nI (i + 1)))] := by
            rw [q9]
            exact lv_sub hl [3, 4, 1, 0] rfl
          exact ih9 (i + 1) (by omega) (by omega) H locs hP hD hS ls hl
        · refine lv_aload_n hx hb dX1_takes_30 rfl (lv_at hl 0 rfl) ?_
          refine va_get (D := D) (ci := 1) (v := .ref g3) (C := RX1) (T := TX1) (N := 16) hx hb hts hin hown hK hP 0 rfl rfl 9 (by decide) f20 (fun _ h9 => h9) rfl dX1_takes_31 ?_
          refine lv_iload hx hb dX1_takes_34 (lv_at hl 3 rfl) ?_
          refine nk_lald hx hb hK hP 3 1 rfl rfl (by omega) (by decide) dX1_takes_36 ?_
          refine nk_topl (y := (lN (b i))) (congrArg lN (tkB_self _ _ _)) ?_
          refine lv_goto (tgt := 41) hx hb dX1_takes_37 (by decide) ?_
          refine lv_lstore (lv' := [(6, .long (lN (b i))), (0, .ref g0), (1, .long (lN a9)), (3, .long (lN (tkR b (a9 * 10000) i))), (5, .int (nI i))]) hx hb dX1_takes_41 hl (by decide) rfl (fun ls hl => ?_)
          refine lv_aload_n hx hb dX1_takes_43 rfl (lv_at hl 1 rfl) ?_
          refine va_get (D := D) (ci := 1) (v := .ref g3) (C := RX1) (T := TX1) (N := 16) hx hb hts hin hown hK hP 0 rfl rfl 9 (by decide) f20 (fun _ h9 => h9) rfl dX1_takes_44 ?_
          refine lv_iload hx hb dX1_takes_47 (lv_at hl 4 rfl) ?_
          refine lv_dup2_11 hx hb dX1_takes_49 rfl rfl ?_
          refine nk_lald hx hb hK hP 3 1 rfl rfl (by omega) (by decide) dX1_takes_50 ?_
          refine nk_topl (y := (lN (b i))) (congrArg lN (tkB_self _ _ _)) ?_
          refine lv_lload hx hb dX1_takes_51 (lv_at hl 0 rfl) ?_
          refine nk_lsub hx hb (by omega) dX1_takes_53 ?_
          refine nk_last hx hb hK hP hD hS 3 1 rfl rfl (by omega) (by decide) dX1_takes_54 (fun H locs hP hD hS => ?_)
          have hP : va_P D vwCl (wM g0 g1 g2 g3 g4 cI cJ d r gb w rm lc k dr pn pa pi th ga e2 (va_up (tkB b (a9 * 10000) i) i ((b i) - (b i))) rt) H := hP
          have hD : va_D A (wM g0 g1 g2 g3 g4 cI cJ d r gb w rm lc k dr pn pa pi th ga e2 (va_up (tkB b (a9 * 10000) i) i ((b i) - (b i))) rt) := hD
          rw [tkB_s2 c26] at hP hD
          refine lv_lload_n hx hb dX1_takes_55 rfl (lv_at hl 3 rfl) ?_
          refine lv_lload hx hb dX1_takes_56 (lv_at hl 0 rfl) ?_
          refine nk_lsub hx hb (by omega) dX1_takes_58 ?_
          refine lv_lstore_n (lv' := [(3, .long (lN ((tkR b (a9 * 10000) i) - (b i)))), (6, .long (lN (b i))), (0, .ref g0), (1, .long (lN a9)), (5, .int (nI i))]) hx hb dX1_takes_59 rfl hl (by decide) rfl (fun ls hl => ?_)
          refine lv_iinc (v := (nI (i + 1))) (lv' := [(5, .int (nI (i + 1))), (3, .long (lN ((tkR b (a9 * 10000) i) - (b i)))), (6, .long (lN (b i))), (0, .ref g0), (1, .long (lN a9))]) hx hb dX1_takes_60 hl (k := 4) rfl (nI_1 _) (by decide) rfl (fun ls hl => ?_)
          refine lv_goto (tgt := 9) hx hb dX1_takes_63 (by decide) ?_
          have q9 : ((lN (tkR b (a9 * 10000) (i + 1)))) = ((lN ((tkR b (a9 * 10000) i) - (b i)))) := (congrArg lN (by have q8 := tkR_s b (a9 * 10000) i; omega))
          have hl : lv_has ls 8 [(0, .ref g0), (1, .long (lN a9)), (3, .long (lN (tkR b (a9 * 10000) (i + 1)))), (5, .int (nI (i + 1)))] := by
            rw [q9]
            exact lv_sub hl [3, 4, 1, 0] rfl
          exact ih9 (i + 1) (by omega) (by omega) H locs hP hD hS ls hl
  have hP : va_P D vwCl (wM g0 g1 g2 g3 g4 cI cJ d r gb w rm lc k dr pn pa pi th ga e2 (tkB b (a9 * 10000) 0) rt) s.heap := by rw [tkB_0]; exact hP
  have hD : va_D A (wM g0 g1 g2 g3 g4 cI cJ d r gb w rm lc k dr pn pa pi th ga e2 (tkB b (a9 * 10000) 0) rt) := by rw [tkB_0]; exact hD
  exact loop9 (k + 1) 0 (by omega) (by omega) s.heap [] hP hD hS ls (lv_sub hl [2, 3, 1, 0] rfl)
set_option maxHeartbeats 4000000 in
set_option maxRecDepth 100000 in
theorem c_X1_day (l : Launch) (D : va_G) (g0 g1 g2 g3 g4 : Nat) (cI cJ : ClassId) (d r gb w rm lc k dr pn pa pi th : Nat) (ga e2 b rt : Nat → Nat) (sz : Nat)   : Met l yX1_day wsX1_day { frames := 0, cells := 0, slots := 0, locals := 0 } (nk_Pw D (wM g0 g1 g2 g3 g4 cI cJ d r gb w rm lc k dr pn pa pi th ga e2 b rt) (tX cI cJ) sz [.ref g0]) (va_Qi (fun r9 w1 => r9 = nI d ∧ w1 = wM g0 g1 g2 g3 g4 cI cJ d r gb w rm lc k dr pn pa pi 0 ga e2 b rt) (fun w1 t => nk_At D (tX cI cJ) (va_A (wM g0 g1 g2 g3 g4 cI cJ d r gb w rm lc k dr pn pa pi th ga e2 b rt) sz) w1 t) (va_A (wM g0 g1 g2 g3 g4 cI cJ d r gb w rm lc k dr pn pa pi th ga e2 b rt) sz)) 0 0 (va_A (wM g0 g1 g2 g3 g4 cI cJ d r gb w rm lc k dr pn pa pi th ga e2 b rt) sz) := by
  refine Met.ofW (cc := cX1_day) (maxL := 1) (ret := (some .int)) (by decide) rfl ?_
  intro p e s m args below meth c s₁ B hml hv
  obtain ⟨hargs, hsz, hP, hK, hD0⟩ := hv
  have hx := B.exec
  have hb := B.bytes
  have hr := B.returns
  have hts := atoms_spec (ws := wsX1_day) B.pre
  have hown : s.vm.findClass RX1 = some m.cls := findClass_of_methodNamed B.named
  have hlocks := B.notSynchronized
  subst hsz
  have hin : ∀ w ∈ wsX10, w ∈ wsX1_day := by decide +kernel
  have hD := hD0.self (sz := s.heap.size)
  generalize hAe : va_A (wM g0 g1 g2 g3 g4 cI cJ d r gb w rm lc k dr pn pa pi th ga e2 b rt) s.heap.size = A at hD ⊢
  have hA : ∀ q : Nat, s.heap.size ≤ q → A q := fun q h => by rw [← hAe]; exact Or.inr h
  have hS : va_S A s.heap s.heap [] := va_S.rf
  have f27 := hts (.fieldLink RX1 27 "EquityReleaseModel" "thrown" "I") (by decide +kernel)
  have f40 := hts (.fieldLink RX1 40 "EquityReleaseModel" "day" "I") (by decide +kernel)
  have hl := lv_entry ([.ref g0]) (n := 1) (Nat.le_of_ble_eq_true rfl)
  have hEe : entryFrame m args 1 = entryFrame m ([.ref g0] : List Value).toArray 1 := by rw [hargs]
  rw [hEe, lg_entry_eq]
  generalize (lg_sl ([.ref g0]) ++ List.replicate (1 - (lg_sl ([.ref g0])).length) Slot.unset).toArray = ls at hl ⊢
  have hl : lv_has ls 1 [(0, .ref g0)] := hl
  refine lv_aload_n hx hb dX1_day_0 rfl (lv_at hl 0 rfl) ?_
  refine lv_iconst (v := nI 0) hx hb dX1_day_1 (by decide +kernel) ?_
  refine va_put (D := D) (ci := 1) (v := .int (nI 0)) (ty := .int) (C := RX1) (T := TX1) (N := 16) hx hb hts hin tyX1 tyX1_ok nmX1 hown hK hP hD hS 0 rfl rfl 15 (by decide) f27 (fun _ h9 => h9) rfl (by decide +kernel) rfl rfl (Nat.le_of_ble_eq_true rfl) dX1_day_2 (fun H locs hP hD hS => ?_)
  have hP : va_P D vwCl (wM g0 g1 g2 g3 g4 cI cJ d r gb w rm lc k dr pn pa pi 0 ga e2 b rt) H := hP
  have hD : va_D A (wM g0 g1 g2 g3 g4 cI cJ d r gb w rm lc k dr pn pa pi 0 ga e2 b rt) := hD
  refine lv_aload_n hx hb dX1_day_5 rfl (lv_at hl 0 rfl) ?_
  refine va_get (D := D) (ci := 1) (v := .int (nI d)) (C := RX1) (T := TX1) (N := 16) hx hb hts hin hown hK hP 0 rfl rfl 0 (by decide) f40 (fun _ h9 => h9) rfl dX1_day_6 ?_
  exact W.iret (v := (nI d)) hx hb hr (fun t ht hW => ⟨⟨(nI d), wM g0 g1 g2 g3 g4 cI cJ d r gb w rm lc k dr pn pa pi 0 ga e2 b rt, rfl, ⟨rfl, rfl⟩, by rw [ht]; exact hP, va_K.moved hW.alike hK, hD⟩, hS.F ht⟩) hS.2.2 dX1_day_9
set_option maxHeartbeats 4000000 in
set_option maxRecDepth 100000 in
theorem c_X1_worth (l : Launch) (D : va_G) (g0 g1 g2 g3 g4 : Nat) (cI cJ : ClassId) (d r gb w rm lc k dr pn pa pi th : Nat) (ga e2 b rt : Nat → Nat) (sz : Nat)   : Met l yX1_worth wsX1_worth { frames := 0, cells := 0, slots := 0, locals := 0 } (nk_Pw D (wM g0 g1 g2 g3 g4 cI cJ d r gb w rm lc k dr pn pa pi th ga e2 b rt) (tX cI cJ) sz [.ref g0]) (va_Qi (fun r9 w1 => r9 = nI w ∧ w1 = wM g0 g1 g2 g3 g4 cI cJ d r gb w rm lc k dr pn pa pi 0 ga e2 b rt) (fun w1 t => nk_At D (tX cI cJ) (va_A (wM g0 g1 g2 g3 g4 cI cJ d r gb w rm lc k dr pn pa pi th ga e2 b rt) sz) w1 t) (va_A (wM g0 g1 g2 g3 g4 cI cJ d r gb w rm lc k dr pn pa pi th ga e2 b rt) sz)) 0 0 (va_A (wM g0 g1 g2 g3 g4 cI cJ d r gb w rm lc k dr pn pa pi th ga e2 b rt) sz) := by
  refine Met.ofW (cc := cX1_worth) (maxL := 1) (ret := (some .int)) (by decide) rfl ?_
  intro p e s m args below meth c s₁ B hml hv
  obtain ⟨hargs, hsz, hP, hK, hD0⟩ := hv
  have hx := B.exec
  have hb := B.bytes
  have hr := B.returns
  have hts := atoms_spec (ws := wsX1_worth) B.pre
  have hown : s.vm.findClass RX1 = some m.cls := findClass_of_methodNamed B.named
  have hlocks := B.notSynchronized
  subst hsz
  have hin : ∀ w ∈ wsX10, w ∈ wsX1_worth := by decide +kernel
  have hD := hD0.self (sz := s.heap.size)
  generalize hAe : va_A (wM g0 g1 g2 g3 g4 cI cJ d r gb w rm lc k dr pn pa pi th ga e2 b rt) s.heap.size = A at hD ⊢
  have hA : ∀ q : Nat, s.heap.size ≤ q → A q := fun q h => by rw [← hAe]; exact Or.inr h
  have hS : va_S A s.heap s.heap [] := va_S.rf
  have f27 := hts (.fieldLink RX1 27 "EquityReleaseModel" "thrown" "I") (by decide +kernel)
  have f69 := hts (.fieldLink RX1 69 "EquityReleaseModel" "worth" "I") (by decide +kernel)
  have hl := lv_entry ([.ref g0]) (n := 1) (Nat.le_of_ble_eq_true rfl)
  have hEe : entryFrame m args 1 = entryFrame m ([.ref g0] : List Value).toArray 1 := by rw [hargs]
  rw [hEe, lg_entry_eq]
  generalize (lg_sl ([.ref g0]) ++ List.replicate (1 - (lg_sl ([.ref g0])).length) Slot.unset).toArray = ls at hl ⊢
  have hl : lv_has ls 1 [(0, .ref g0)] := hl
  refine lv_aload_n hx hb dX1_worth_0 rfl (lv_at hl 0 rfl) ?_
  refine lv_iconst (v := nI 0) hx hb dX1_worth_1 (by decide +kernel) ?_
  refine va_put (D := D) (ci := 1) (v := .int (nI 0)) (ty := .int) (C := RX1) (T := TX1) (N := 16) hx hb hts hin tyX1 tyX1_ok nmX1 hown hK hP hD hS 0 rfl rfl 15 (by decide) f27 (fun _ h9 => h9) rfl (by decide +kernel) rfl rfl (Nat.le_of_ble_eq_true rfl) dX1_worth_2 (fun H locs hP hD hS => ?_)
  have hP : va_P D vwCl (wM g0 g1 g2 g3 g4 cI cJ d r gb w rm lc k dr pn pa pi 0 ga e2 b rt) H := hP
  have hD : va_D A (wM g0 g1 g2 g3 g4 cI cJ d r gb w rm lc k dr pn pa pi 0 ga e2 b rt) := hD
  refine lv_aload_n hx hb dX1_worth_5 rfl (lv_at hl 0 rfl) ?_
  refine va_get (D := D) (ci := 1) (v := .int (nI w)) (C := RX1) (T := TX1) (N := 16) hx hb hts hin hown hK hP 0 rfl rfl 3 (by decide) f69 (fun _ h9 => h9) rfl dX1_worth_6 ?_
  exact W.iret (v := (nI w)) hx hb hr (fun t ht hW => ⟨⟨(nI w), wM g0 g1 g2 g3 g4 cI cJ d r gb w rm lc k dr pn pa pi 0 ga e2 b rt, rfl, ⟨rfl, rfl⟩, by rw [ht]; exact hP, va_K.moved hW.alike hK, hD⟩, hS.F ht⟩) hS.2.2 dX1_worth_9
set_option maxHeartbeats 4000000 in
set_option maxRecDepth 100000 in
theorem c_X1_room (l : Launch) (D : va_G) (g0 g1 g2 g3 g4 : Nat) (cI cJ : ClassId) (d r gb w rm lc k dr pn pa pi th : Nat) (ga e2 b rt : Nat → Nat) (sz : Nat)   : Met l yX1_room wsX1_room { frames := 0, cells := 0, slots := 0, locals := 0 } (nk_Pw D (wM g0 g1 g2 g3 g4 cI cJ d r gb w rm lc k dr pn pa pi th ga e2 b rt) (tX cI cJ) sz [.ref g0]) (va_Qi (fun r9 w1 => r9 = nI rm ∧ w1 = wM g0 g1 g2 g3 g4 cI cJ d r gb w rm lc k dr pn pa pi 0 ga e2 b rt) (fun w1 t => nk_At D (tX cI cJ) (va_A (wM g0 g1 g2 g3 g4 cI cJ d r gb w rm lc k dr pn pa pi th ga e2 b rt) sz) w1 t) (va_A (wM g0 g1 g2 g3 g4 cI cJ d r gb w rm lc k dr pn pa pi th ga e2 b rt) sz)) 0 0 (va_A (wM g0 g1 g2 g3 g4 cI cJ d r gb w rm lc k dr pn pa pi th ga e2 b rt) sz) := by
  refine Met.ofW (cc := cX1_room) (maxL := 1) (ret := (some .int)) (by decide) rfl ?_
  intro p e s m args below meth c s₁ B hml hv
  obtain ⟨hargs, hsz, hP, hK, hD0⟩ := hv
  have hx := B.exec
  have hb := B.bytes
  have hr := B.returns
  have hts := atoms_spec (ws := wsX1_room) B.pre
  have hown : s.vm.findClass RX1 = some m.cls := findClass_of_methodNamed B.named
  have hlocks := B.notSynchronized
  subst hsz
  have hin : ∀ w ∈ wsX10, w ∈ wsX1_room := by decide +kernel
  have hD := hD0.self (sz := s.heap.size)
  generalize hAe : va_A (wM g0 g1 g2 g3 g4 cI cJ d r gb w rm lc k dr pn pa pi th ga e2 b rt) s.heap.size = A at hD ⊢
  have hA : ∀ q : Nat, s.heap.size ≤ q → A q := fun q h => by rw [← hAe]; exact Or.inr h
  have hS : va_S A s.heap s.heap [] := va_S.rf
  have f27 := hts (.fieldLink RX1 27 "EquityReleaseModel" "thrown" "I") (by decide +kernel)
  have f72 := hts (.fieldLink RX1 72 "EquityReleaseModel" "room" "I") (by decide +kernel)
  have hl := lv_entry ([.ref g0]) (n := 1) (Nat.le_of_ble_eq_true rfl)
  have hEe : entryFrame m args 1 = entryFrame m ([.ref g0] : List Value).toArray 1 := by rw [hargs]
  rw [hEe, lg_entry_eq]
  generalize (lg_sl ([.ref g0]) ++ List.replicate (1 - (lg_sl ([.ref g0])).length) Slot.unset).toArray = ls at hl ⊢
  have hl : lv_has ls 1 [(0, .ref g0)] := hl
  refine lv_aload_n hx hb dX1_room_0 rfl (lv_at hl 0 rfl) ?_
  refine lv_iconst (v := nI 0) hx hb dX1_room_1 (by decide +kernel) ?_
  refine va_put (D := D) (ci := 1) (v := .int (nI 0)) (ty := .int) (C := RX1) (T := TX1) (N := 16) hx hb hts hin tyX1 tyX1_ok nmX1 hown hK hP hD hS 0 rfl rfl 15 (by decide) f27 (fun _ h9 => h9) rfl (by decide +kernel) rfl rfl (Nat.le_of_ble_eq_true rfl) dX1_room_2 (fun H locs hP hD hS => ?_)
  have hP : va_P D vwCl (wM g0 g1 g2 g3 g4 cI cJ d r gb w rm lc k dr pn pa pi 0 ga e2 b rt) H := hP
  have hD : va_D A (wM g0 g1 g2 g3 g4 cI cJ d r gb w rm lc k dr pn pa pi 0 ga e2 b rt) := hD
  refine lv_aload_n hx hb dX1_room_5 rfl (lv_at hl 0 rfl) ?_
  refine va_get (D := D) (ci := 1) (v := .int (nI rm)) (C := RX1) (T := TX1) (N := 16) hx hb hts hin hown hK hP 0 rfl rfl 4 (by decide) f72 (fun _ h9 => h9) rfl dX1_room_6 ?_
  exact W.iret (v := (nI rm)) hx hb hr (fun t ht hW => ⟨⟨(nI rm), wM g0 g1 g2 g3 g4 cI cJ d r gb w rm lc k dr pn pa pi 0 ga e2 b rt, rfl, ⟨rfl, rfl⟩, by rw [ht]; exact hP, va_K.moved hW.alike hK, hD⟩, hS.F ht⟩) hS.2.2 dX1_room_9
set_option maxHeartbeats 4000000 in
set_option maxRecDepth 100000 in
theorem c_X1_drawings (l : Launch) (D : va_G) (g0 g1 g2 g3 g4 : Nat) (cI cJ : ClassId) (d r gb w rm lc k dr pn pa pi th : Nat) (ga e2 b rt : Nat → Nat) (sz : Nat)   : Met l yX1_drawings wsX1_drawings { frames := 0, cells := 0, slots := 0, locals := 0 } (nk_Pw D (wM g0 g1 g2 g3 g4 cI cJ d r gb w rm lc k dr pn pa pi th ga e2 b rt) (tX cI cJ) sz [.ref g0]) (va_Qi (fun r9 w1 => r9 = nI k ∧ w1 = wM g0 g1 g2 g3 g4 cI cJ d r gb w rm lc k dr pn pa pi 0 ga e2 b rt) (fun w1 t => nk_At D (tX cI cJ) (va_A (wM g0 g1 g2 g3 g4 cI cJ d r gb w rm lc k dr pn pa pi th ga e2 b rt) sz) w1 t) (va_A (wM g0 g1 g2 g3 g4 cI cJ d r gb w rm lc k dr pn pa pi th ga e2 b rt) sz)) 0 0 (va_A (wM g0 g1 g2 g3 g4 cI cJ d r gb w rm lc k dr pn pa pi th ga e2 b rt) sz) := by
  refine Met.ofW (cc := cX1_drawings) (maxL := 1) (ret := (some .int)) (by decide) rfl ?_
  intro p e s m args below meth c s₁ B hml hv
  obtain ⟨hargs, hsz, hP, hK, hD0⟩ := hv
  have hx := B.exec
  have hb := B.bytes
  have hr := B.returns
  have hts := atoms_spec (ws := wsX1_drawings) B.pre
  have hown : s.vm.findClass RX1 = some m.cls := findClass_of_methodNamed B.named
  have hlocks := B.notSynchronized
  subst hsz
  have hin : ∀ w ∈ wsX10, w ∈ wsX1_drawings := by decide +kernel
  have hD := hD0.self (sz := s.heap.size)
  generalize hAe : va_A (wM g0 g1 g2 g3 g4 cI cJ d r gb w rm lc k dr pn pa pi th ga e2 b rt) s.heap.size = A at hD ⊢
  have hA : ∀ q : Nat, s.heap.size ≤ q → A q := fun q h => by rw [← hAe]; exact Or.inr h
  have hS : va_S A s.heap s.heap [] := va_S.rf
  have f27 := hts (.fieldLink RX1 27 "EquityReleaseModel" "thrown" "I") (by decide +kernel)
  have f48 := hts (.fieldLink RX1 48 "EquityReleaseModel" "drawings" "I") (by decide +kernel)
  have hl := lv_entry ([.ref g0]) (n := 1) (Nat.le_of_ble_eq_true rfl)
  have hEe : entryFrame m args 1 = entryFrame m ([.ref g0] : List Value).toArray 1 := by rw [hargs]
  rw [hEe, lg_entry_eq]
  generalize (lg_sl ([.ref g0]) ++ List.replicate (1 - (lg_sl ([.ref g0])).length) Slot.unset).toArray = ls at hl ⊢
  have hl : lv_has ls 1 [(0, .ref g0)] := hl
  refine lv_aload_n hx hb dX1_drawings_0 rfl (lv_at hl 0 rfl) ?_
  refine lv_iconst (v := nI 0) hx hb dX1_drawings_1 (by decide +kernel) ?_
  refine va_put (D := D) (ci := 1) (v := .int (nI 0)) (ty := .int) (C := RX1) (T := TX1) (N := 16) hx hb hts hin tyX1 tyX1_ok nmX1 hown hK hP hD hS 0 rfl rfl 15 (by decide) f27 (fun _ h9 => h9) rfl (by decide +kernel) rfl rfl (Nat.le_of_ble_eq_true rfl) dX1_drawings_2 (fun H locs hP hD hS => ?_)
  have hP : va_P D vwCl (wM g0 g1 g2 g3 g4 cI cJ d r gb w rm lc k dr pn pa pi 0 ga e2 b rt) H := hP
  have hD : va_D A (wM g0 g1 g2 g3 g4 cI cJ d r gb w rm lc k dr pn pa pi 0 ga e2 b rt) := hD
  refine lv_aload_n hx hb dX1_drawings_5 rfl (lv_at hl 0 rfl) ?_
  refine va_get (D := D) (ci := 1) (v := .int (nI k)) (C := RX1) (T := TX1) (N := 16) hx hb hts hin hown hK hP 0 rfl rfl 8 (by decide) f48 (fun _ h9 => h9) rfl dX1_drawings_6 ?_
  exact W.iret (v := (nI k)) hx hb hr (fun t ht hW => ⟨⟨(nI k), wM g0 g1 g2 g3 g4 cI cJ d r gb w rm lc k dr pn pa pi 0 ga e2 b rt, rfl, ⟨rfl, rfl⟩, by rw [ht]; exact hP, va_K.moved hW.alike hK, hD⟩, hS.F ht⟩) hS.2.2 dX1_drawings_9
set_option maxHeartbeats 4000000 in
set_option maxRecDepth 100000 in
theorem c_X1_hasEnded (l : Launch) (D : va_G) (g0 g1 g2 g3 g4 : Nat) (cI cJ : ClassId) (d r gb w rm lc k dr pn pa pi th : Nat) (ga e2 b rt : Nat → Nat) (sz : Nat)  (hgb2 : gb ≤ 15001) (hlc : lc ≤ 2) (he2 : ∀ j, j < lc → e2 j ≤ 15001) : Met l yX1_hasEnded wsX1_hasEnded { frames := 1, cells := 0, slots := 0, locals := 22 } (nk_Pw D (wM g0 g1 g2 g3 g4 cI cJ d r gb w rm lc k dr pn pa pi th ga e2 b rt) (tX cI cJ) sz [.ref g0]) (va_Qi (fun r9 w1 => r9 = nI (if (0 < gb ∧ alive e2 lc = 0) then 1 else 0) ∧ w1 = wM g0 g1 g2 g3 g4 cI cJ d r gb w rm lc k dr pn pa pi 0 ga e2 b rt) (fun w1 t => nk_At D (tX cI cJ) (va_A (wM g0 g1 g2 g3 g4 cI cJ d r gb w rm lc k dr pn pa pi th ga e2 b rt) sz) w1 t) (va_A (wM g0 g1 g2 g3 g4 cI cJ d r gb w rm lc k dr pn pa pi th ga e2 b rt) sz)) 0 0 (va_A (wM g0 g1 g2 g3 g4 cI cJ d r gb w rm lc k dr pn pa pi th ga e2 b rt) sz) := by
  refine Met.ofW (cc := cX1_hasEnded) (maxL := 1) (ret := (some .boolean)) (by decide) rfl ?_
  intro p e s m args below meth c s₁ B hml hv
  obtain ⟨hargs, hsz, hP, hK, hD0⟩ := hv
  have hx := B.exec
  have hb := B.bytes
  have hr := B.returns
  have hts := atoms_spec (ws := wsX1_hasEnded) B.pre
  have hown : s.vm.findClass RX1 = some m.cls := findClass_of_methodNamed B.named
  have hlocks := B.notSynchronized
  subst hsz
  have hin : ∀ w ∈ wsX10, w ∈ wsX1_hasEnded := by decide +kernel
  have hD := hD0.self (sz := s.heap.size)
  generalize hAe : va_A (wM g0 g1 g2 g3 g4 cI cJ d r gb w rm lc k dr pn pa pi th ga e2 b rt) s.heap.size = A at hD ⊢
  have hA : ∀ q : Nat, s.heap.size ≤ q → A q := fun q h => by rw [← hAe]; exact Or.inr h
  have hS : va_S A s.heap s.heap [] := va_S.rf
  have f27 := hts (.fieldLink RX1 27 "EquityReleaseModel" "thrown" "I") (by decide +kernel)
  have f33 := hts (.fieldLink RX1 33 "EquityReleaseModel" "begun" "I") (by decide +kernel)
  have hl := lv_entry ([.ref g0]) (n := 1) (Nat.le_of_ble_eq_true rfl)
  have hEe : entryFrame m args 1 = entryFrame m ([.ref g0] : List Value).toArray 1 := by rw [hargs]
  rw [hEe, lg_entry_eq]
  generalize (lg_sl ([.ref g0]) ++ List.replicate (1 - (lg_sl ([.ref g0])).length) Slot.unset).toArray = ls at hl ⊢
  have hl : lv_has ls 1 [(0, .ref g0)] := hl
  refine lv_aload_n hx hb dX1_hasEnded_0 rfl (lv_at hl 0 rfl) ?_
  refine lv_iconst (v := nI 0) hx hb dX1_hasEnded_1 (by decide +kernel) ?_
  refine va_put (D := D) (ci := 1) (v := .int (nI 0)) (ty := .int) (C := RX1) (T := TX1) (N := 16) hx hb hts hin tyX1 tyX1_ok nmX1 hown hK hP hD hS 0 rfl rfl 15 (by decide) f27 (fun _ h9 => h9) rfl (by decide +kernel) rfl rfl (Nat.le_of_ble_eq_true rfl) dX1_hasEnded_2 (fun H locs hP hD hS => ?_)
  have hP : va_P D vwCl (wM g0 g1 g2 g3 g4 cI cJ d r gb w rm lc k dr pn pa pi 0 ga e2 b rt) H := hP
  have hD : va_D A (wM g0 g1 g2 g3 g4 cI cJ d r gb w rm lc k dr pn pa pi 0 ga e2 b rt) := hD
  refine lv_aload_n hx hb dX1_hasEnded_5 rfl (lv_at hl 0 rfl) ?_
  refine va_get (D := D) (ci := 1) (v := .int (nI gb)) (C := RX1) (T := TX1) (N := 16) hx hb hts hin hown hK hP 0 rfl rfl 2 (by decide) f33 (fun _ h9 => h9) rfl dX1_hasEnded_6 ?_
  refine nk_if_le (tgt := 23) hx hb (by omega) dX1_hasEnded_9 (by decide) (fun c9 => ?_) (fun c9 => ?_)
  · refine lv_iconst (v := nI 0) hx hb dX1_hasEnded_23 (by decide +kernel) ?_
    exact W.zret (ty := .boolean) (v := (nI 0)) hx hb hr rfl (fun t ht hW => ⟨⟨(nI 0), wM g0 g1 g2 g3 g4 cI cJ d r gb w rm lc k dr pn pa pi 0 ga e2 b rt, rfl, ⟨by rw [if_neg (by omega)], rfl⟩, by rw [ht]; exact hP, va_K.moved hW.alike hK, hD⟩, hS.F ht⟩) hS.2.2 dX1_hasEnded_24
  · refine lv_aload_n hx hb dX1_hasEnded_12 rfl (lv_at hl 0 rfl) ?_
    refine nk_rd (W.runV (As := []) (rest := []) ⟨hx, hb, hml, hown, hts⟩ (c_X1_left l D g0 g1 g2 g3 g4 cI cJ d r gb w rm lc k dr pn pa pi 0 ga e2 b rt hlc he2) (cwV 0 hts gX1_hasEnded_X1_left rfl rfl rfl (by decide +kernel) ⟨Nat.le_of_ble_eq_true rfl, Nat.le_of_ble_eq_true rfl⟩) ⟨nk_Pr.blind, va_recv hK hP (ci := 1) (q0 := 0) rfl rfl, fun U hU hW => ⟨rfl, by rw [hU]; exact hP, va_K.moved hW.alike hK⟩⟩ rfl rfl hl.1 rfl (lv_room (Nat.le_of_ble_eq_true rfl)) dX1_hasEnded_13 ⟨Nat.zero_le _, Nat.zero_le _⟩) ?_
    refine W.eq (g2 := F0 m 16 ls [.int (nI (alive e2 lc))]) rfl ?_
    have hal := alive_le e2 lc
    refine nk_if_ne (tgt := 23) hx hb (by omega) dX1_hasEnded_16 (by decide) (fun c16 => ?_) (fun c16 => ?_)
    · refine lv_iconst (v := nI 0) hx hb dX1_hasEnded_23 (by decide +kernel) ?_
      exact W.zret (ty := .boolean) (v := (nI 0)) hx hb hr rfl (fun t ht hW => ⟨⟨(nI 0), wM g0 g1 g2 g3 g4 cI cJ d r gb w rm lc k dr pn pa pi 0 ga e2 b rt, rfl, ⟨by rw [if_neg (by omega)], rfl⟩, by rw [ht]; exact hP, va_K.moved hW.alike hK, hD⟩, hS.F ht⟩) hS.2.2 dX1_hasEnded_24
    · refine lv_iconst (v := nI 1) hx hb dX1_hasEnded_19 (by decide +kernel) ?_
      refine lv_goto (tgt := 24) hx hb dX1_hasEnded_20 (by decide) ?_
      exact W.zret (ty := .boolean) (v := (nI 1)) hx hb hr rfl (fun t ht hW => ⟨⟨(nI 1), wM g0 g1 g2 g3 g4 cI cJ d r gb w rm lc k dr pn pa pi 0 ga e2 b rt, rfl, ⟨by rw [if_pos ⟨c9, c16⟩], rfl⟩, by rw [ht]; exact hP, va_K.moved hW.alike hK, hD⟩, hS.F ht⟩) hS.2.2 dX1_hasEnded_24
set_option maxHeartbeats 4000000 in
set_option maxRecDepth 100000 in
theorem c_X1_age (l : Launch) (D : va_G) (g0 g1 g2 g3 g4 : Nat) (cI cJ : ClassId) (d r gb w rm lc k dr pn pa pi th : Nat) (ga e2 b rt : Nat → Nat) (sz : Nat)  (hlc : lc ≤ 2) (he2 : ∀ j, j < lc → e2 j ≤ 15001) (hga : ∀ j, j < lc → 55 ≤ ga j ∧ ga j ≤ 95) (hd : d ≤ 15000) : Met l yX1_age wsX1_age { frames := 1, cells := 0, slots := 0, locals := 23 } (nk_Pw D (wM g0 g1 g2 g3 g4 cI cJ d r gb w rm lc k dr pn pa pi th ga e2 b rt) (tX cI cJ) sz [.ref g0]) (va_Qi (fun r9 w1 => r9 = nI (agE ga e2 lc (d / 365)) - 1 ∧ w1 = wM g0 g1 g2 g3 g4 cI cJ d r gb w rm lc k dr pn pa pi 0 ga e2 b rt) (fun w1 t => nk_At D (tX cI cJ) (va_A (wM g0 g1 g2 g3 g4 cI cJ d r gb w rm lc k dr pn pa pi th ga e2 b rt) sz) w1 t) (va_A (wM g0 g1 g2 g3 g4 cI cJ d r gb w rm lc k dr pn pa pi th ga e2 b rt) sz)) 0 0 (va_A (wM g0 g1 g2 g3 g4 cI cJ d r gb w rm lc k dr pn pa pi th ga e2 b rt) sz) := by
  refine Met.ofW (cc := cX1_age) (maxL := 1) (ret := (some .int)) (by decide) rfl ?_
  intro p e s m args below meth c s₁ B hml hv
  obtain ⟨hargs, hsz, hP, hK, hD0⟩ := hv
  have hx := B.exec
  have hb := B.bytes
  have hr := B.returns
  have hts := atoms_spec (ws := wsX1_age) B.pre
  have hown : s.vm.findClass RX1 = some m.cls := findClass_of_methodNamed B.named
  have hlocks := B.notSynchronized
  subst hsz
  have hin : ∀ w ∈ wsX10, w ∈ wsX1_age := by decide +kernel
  have hD := hD0.self (sz := s.heap.size)
  generalize hAe : va_A (wM g0 g1 g2 g3 g4 cI cJ d r gb w rm lc k dr pn pa pi th ga e2 b rt) s.heap.size = A at hD ⊢
  have hA : ∀ q : Nat, s.heap.size ≤ q → A q := fun q h => by rw [← hAe]; exact Or.inr h
  have hS : va_S A s.heap s.heap [] := va_S.rf
  have f27 := hts (.fieldLink RX1 27 "EquityReleaseModel" "thrown" "I") (by decide +kernel)
  have hl := lv_entry ([.ref g0]) (n := 1) (Nat.le_of_ble_eq_true rfl)
  have hEe : entryFrame m args 1 = entryFrame m ([.ref g0] : List Value).toArray 1 := by rw [hargs]
  rw [hEe, lg_entry_eq]
  generalize (lg_sl ([.ref g0]) ++ List.replicate (1 - (lg_sl ([.ref g0])).length) Slot.unset).toArray = ls at hl ⊢
  have hl : lv_has ls 1 [(0, .ref g0)] := hl
  refine lv_aload_n hx hb dX1_age_0 rfl (lv_at hl 0 rfl) ?_
  refine lv_iconst (v := nI 0) hx hb dX1_age_1 (by decide +kernel) ?_
  refine va_put (D := D) (ci := 1) (v := .int (nI 0)) (ty := .int) (C := RX1) (T := TX1) (N := 16) hx hb hts hin tyX1 tyX1_ok nmX1 hown hK hP hD hS 0 rfl rfl 15 (by decide) f27 (fun _ h9 => h9) rfl (by decide +kernel) rfl rfl (Nat.le_of_ble_eq_true rfl) dX1_age_2 (fun H locs hP hD hS => ?_)
  have hP : va_P D vwCl (wM g0 g1 g2 g3 g4 cI cJ d r gb w rm lc k dr pn pa pi 0 ga e2 b rt) H := hP
  have hD : va_D A (wM g0 g1 g2 g3 g4 cI cJ d r gb w rm lc k dr pn pa pi 0 ga e2 b rt) := hD
  refine lv_aload_n hx hb dX1_age_5 rfl (lv_at hl 0 rfl) ?_
  refine nk_rd (W.runV (As := []) (rest := []) ⟨hx, hb, hml, hown, hts⟩ (c_X1_ageNow l D g0 g1 g2 g3 g4 cI cJ d r gb w rm lc k dr pn pa pi 0 ga e2 b rt hlc he2 hga hd) (cwV 0 hts gX1_age_X1_ageNow rfl rfl rfl (by decide +kernel) ⟨Nat.le_of_ble_eq_true rfl, Nat.le_of_ble_eq_true rfl⟩) ⟨nk_Pr.blind, va_recv hK hP (ci := 1) (q0 := 0) rfl rfl, fun U hU hW => ⟨rfl, by rw [hU]; exact hP, va_K.moved hW.alike hK⟩⟩ rfl rfl hl.1 rfl (lv_room (Nat.le_of_ble_eq_true rfl)) dX1_age_6 ⟨Nat.zero_le _, Nat.zero_le _⟩) ?_
  refine W.eq (g2 := F0 m 9 ls [.int (nI (agE ga e2 lc (d / 365)) - 1)]) rfl ?_
  exact W.iret (v := (nI (agE ga e2 lc (d / 365)) - 1)) hx hb hr (fun t ht hW => ⟨⟨(nI (agE ga e2 lc (d / 365)) - 1), wM g0 g1 g2 g3 g4 cI cJ d r gb w rm lc k dr pn pa pi 0 ga e2 b rt, rfl, ⟨rfl, rfl⟩, by rw [ht]; exact hP, va_K.moved hW.alike hK, hD⟩, hS.F ht⟩) hS.2.2 dX1_age_9
set_option maxHeartbeats 4000000 in
set_option maxRecDepth 100000 in
theorem c_X1_debt (l : Launch) (D : va_G) (g0 g1 g2 g3 g4 : Nat) (cI cJ : ClassId) (d r gb w rm lc k dr pn pa pi th : Nat) (ga e2 b rt : Nat → Nat) (sz : Nat)  (hk : k ≤ 20) (hbs : sm b k < 4611686018427387904) : Met l yX1_debt wsX1_debt { frames := 1, cells := 0, slots := 0, locals := 23 } (nk_Pw D (wM g0 g1 g2 g3 g4 cI cJ d r gb w rm lc k dr pn pa pi th ga e2 b rt) (tX cI cJ) sz [.ref g0]) (va_Ql (fun r9 w1 => r9 = lN (ceilA (sm b k)) ∧ w1 = wM g0 g1 g2 g3 g4 cI cJ d r gb w rm lc k dr pn pa pi 0 ga e2 b rt) (fun w1 t => nk_At D (tX cI cJ) (va_A (wM g0 g1 g2 g3 g4 cI cJ d r gb w rm lc k dr pn pa pi th ga e2 b rt) sz) w1 t) (va_A (wM g0 g1 g2 g3 g4 cI cJ d r gb w rm lc k dr pn pa pi th ga e2 b rt) sz)) 0 0 (va_A (wM g0 g1 g2 g3 g4 cI cJ d r gb w rm lc k dr pn pa pi th ga e2 b rt) sz) := by
  refine Met.ofW (cc := cX1_debt) (maxL := 1) (ret := (some .long)) (by decide) rfl ?_
  intro p e s m args below meth c s₁ B hml hv
  obtain ⟨hargs, hsz, hP, hK, hD0⟩ := hv
  have hx := B.exec
  have hb := B.bytes
  have hr := B.returns
  have hts := atoms_spec (ws := wsX1_debt) B.pre
  have hown : s.vm.findClass RX1 = some m.cls := findClass_of_methodNamed B.named
  have hlocks := B.notSynchronized
  subst hsz
  have hin : ∀ w ∈ wsX10, w ∈ wsX1_debt := by decide +kernel
  have hD := hD0.self (sz := s.heap.size)
  generalize hAe : va_A (wM g0 g1 g2 g3 g4 cI cJ d r gb w rm lc k dr pn pa pi th ga e2 b rt) s.heap.size = A at hD ⊢
  have hA : ∀ q : Nat, s.heap.size ≤ q → A q := fun q h => by rw [← hAe]; exact Or.inr h
  have hS : va_S A s.heap s.heap [] := va_S.rf
  have f27 := hts (.fieldLink RX1 27 "EquityReleaseModel" "thrown" "I") (by decide +kernel)
  have hl := lv_entry ([.ref g0]) (n := 1) (Nat.le_of_ble_eq_true rfl)
  have hEe : entryFrame m args 1 = entryFrame m ([.ref g0] : List Value).toArray 1 := by rw [hargs]
  rw [hEe, lg_entry_eq]
  generalize (lg_sl ([.ref g0]) ++ List.replicate (1 - (lg_sl ([.ref g0])).length) Slot.unset).toArray = ls at hl ⊢
  have hl : lv_has ls 1 [(0, .ref g0)] := hl
  refine lv_aload_n hx hb dX1_debt_0 rfl (lv_at hl 0 rfl) ?_
  refine lv_iconst (v := nI 0) hx hb dX1_debt_1 (by decide +kernel) ?_
  refine va_put (D := D) (ci := 1) (v := .int (nI 0)) (ty := .int) (C := RX1) (T := TX1) (N := 16) hx hb hts hin tyX1 tyX1_ok nmX1 hown hK hP hD hS 0 rfl rfl 15 (by decide) f27 (fun _ h9 => h9) rfl (by decide +kernel) rfl rfl (Nat.le_of_ble_eq_true rfl) dX1_debt_2 (fun H locs hP hD hS => ?_)
  have hP : va_P D vwCl (wM g0 g1 g2 g3 g4 cI cJ d r gb w rm lc k dr pn pa pi 0 ga e2 b rt) H := hP
  have hD : va_D A (wM g0 g1 g2 g3 g4 cI cJ d r gb w rm lc k dr pn pa pi 0 ga e2 b rt) := hD
  refine lv_aload_n hx hb dX1_debt_5 rfl (lv_at hl 0 rfl) ?_
  refine nk_rd (W.runV (As := []) (rest := []) ⟨hx, hb, hml, hown, hts⟩ (c_X1_all l D g0 g1 g2 g3 g4 cI cJ d r gb w rm lc k dr pn pa pi 0 ga e2 b rt hk) (cwV 0 hts gX1_debt_X1_all rfl rfl rfl (by decide +kernel) ⟨Nat.le_of_ble_eq_true rfl, Nat.le_of_ble_eq_true rfl⟩) ⟨nk_Pr.blind, va_recv hK hP (ci := 1) (q0 := 0) rfl rfl, fun U hU hW => ⟨rfl, by rw [hU]; exact hP, va_K.moved hW.alike hK⟩⟩ rfl rfl hl.1 rfl (lv_room (Nat.le_of_ble_eq_true rfl)) dX1_debt_6 ⟨Nat.zero_le _, Nat.zero_le _⟩) ?_
  refine W.eq (g2 := F0 m 9 ls [.long (lN (sm b k))]) rfl ?_
  refine nk_rd (W.runS (As := [.long (lN (sm b k))]) (rest := []) ⟨hx, hb, hml, hown, hts⟩ (c_X1_up l (sm b k) (by omega)) (va_cwS 1 hts gX1_debt_X1_up rfl rfl rfl (by decide +kernel) ⟨Nat.le_of_ble_eq_true rfl, Nat.le_of_ble_eq_true rfl⟩) ⟨nk_P0.blind, fun U hU hW => ⟨rfl, trivial⟩⟩ rfl rfl hl.1 rfl (lv_room (Nat.le_of_ble_eq_true rfl)) dX1_debt_9 ⟨Nat.zero_le _, Nat.zero_le _⟩) ?_
  refine W.eq (g2 := F0 m 12 ls [.long (lN (ceilA (sm b k)))]) rfl ?_
  exact W.lret (v := (lN (ceilA (sm b k)))) hx hb hr (fun t ht hW => ⟨⟨(lN (ceilA (sm b k))), wM g0 g1 g2 g3 g4 cI cJ d r gb w rm lc k dr pn pa pi 0 ga e2 b rt, rfl, ⟨rfl, rfl⟩, by rw [ht]; exact hP, va_K.moved hW.alike hK, hD⟩, hS.F ht⟩) hS.2.2 dX1_debt_12
set_option maxHeartbeats 4000000 in
set_option maxRecDepth 100000 in
theorem c_X1_debtAnew (l : Launch) (D : va_G) (g0 g1 g2 g3 g4 : Nat) (cI cJ : ClassId) (d r gb w rm lc k dr pn pa pi th : Nat) (ga e2 b rt : Nat → Nat) (sz : Nat)  (hk : k ≤ 20) (hbs : sm b k < 4611686018427387904) : Met l yX1_debtAnew wsX1_debtAnew { frames := 1, cells := 0, slots := 0, locals := 23 } (nk_Pw D (wM g0 g1 g2 g3 g4 cI cJ d r gb w rm lc k dr pn pa pi th ga e2 b rt) (tX cI cJ) sz [.ref g0]) (va_Ql (fun r9 w1 => r9 = lN (ceilA (sm b k)) ∧ w1 = wM g0 g1 g2 g3 g4 cI cJ d r gb w rm lc k dr pn pa pi 0 ga e2 b rt) (fun w1 t => nk_At D (tX cI cJ) (va_A (wM g0 g1 g2 g3 g4 cI cJ d r gb w rm lc k dr pn pa pi th ga e2 b rt) sz) w1 t) (va_A (wM g0 g1 g2 g3 g4 cI cJ d r gb w rm lc k dr pn pa pi th ga e2 b rt) sz)) 0 0 (va_A (wM g0 g1 g2 g3 g4 cI cJ d r gb w rm lc k dr pn pa pi th ga e2 b rt) sz) := by
  refine Met.ofW (cc := cX1_debtAnew) (maxL := 1) (ret := (some .long)) (by decide) rfl ?_
  intro p e s m args below meth c s₁ B hml hv
  obtain ⟨hargs, hsz, hP, hK, hD0⟩ := hv
  have hx := B.exec
  have hb := B.bytes
  have hr := B.returns
  have hts := atoms_spec (ws := wsX1_debtAnew) B.pre
  have hown : s.vm.findClass RX1 = some m.cls := findClass_of_methodNamed B.named
  have hlocks := B.notSynchronized
  subst hsz
  have hin : ∀ w ∈ wsX10, w ∈ wsX1_debtAnew := by decide +kernel
  have hD := hD0.self (sz := s.heap.size)
  generalize hAe : va_A (wM g0 g1 g2 g3 g4 cI cJ d r gb w rm lc k dr pn pa pi th ga e2 b rt) s.heap.size = A at hD ⊢
  have hA : ∀ q : Nat, s.heap.size ≤ q → A q := fun q h => by rw [← hAe]; exact Or.inr h
  have hS : va_S A s.heap s.heap [] := va_S.rf
  have f27 := hts (.fieldLink RX1 27 "EquityReleaseModel" "thrown" "I") (by decide +kernel)
  have hl := lv_entry ([.ref g0]) (n := 1) (Nat.le_of_ble_eq_true rfl)
  have hEe : entryFrame m args 1 = entryFrame m ([.ref g0] : List Value).toArray 1 := by rw [hargs]
  rw [hEe, lg_entry_eq]
  generalize (lg_sl ([.ref g0]) ++ List.replicate (1 - (lg_sl ([.ref g0])).length) Slot.unset).toArray = ls at hl ⊢
  have hl : lv_has ls 1 [(0, .ref g0)] := hl
  refine lv_aload_n hx hb dX1_debtAnew_0 rfl (lv_at hl 0 rfl) ?_
  refine lv_iconst (v := nI 0) hx hb dX1_debtAnew_1 (by decide +kernel) ?_
  refine va_put (D := D) (ci := 1) (v := .int (nI 0)) (ty := .int) (C := RX1) (T := TX1) (N := 16) hx hb hts hin tyX1 tyX1_ok nmX1 hown hK hP hD hS 0 rfl rfl 15 (by decide) f27 (fun _ h9 => h9) rfl (by decide +kernel) rfl rfl (Nat.le_of_ble_eq_true rfl) dX1_debtAnew_2 (fun H locs hP hD hS => ?_)
  have hP : va_P D vwCl (wM g0 g1 g2 g3 g4 cI cJ d r gb w rm lc k dr pn pa pi 0 ga e2 b rt) H := hP
  have hD : va_D A (wM g0 g1 g2 g3 g4 cI cJ d r gb w rm lc k dr pn pa pi 0 ga e2 b rt) := hD
  refine lv_aload_n hx hb dX1_debtAnew_5 rfl (lv_at hl 0 rfl) ?_
  refine nk_rd (W.runV (As := []) (rest := []) ⟨hx, hb, hml, hown, hts⟩ (c_X1_all l D g0 g1 g2 g3 g4 cI cJ d r gb w rm lc k dr pn pa pi 0 ga e2 b rt hk) (cwV 0 hts gX1_debtAnew_X1_all rfl rfl rfl (by decide +kernel) ⟨Nat.le_of_ble_eq_true rfl, Nat.le_of_ble_eq_true rfl⟩) ⟨nk_Pr.blind, va_recv hK hP (ci := 1) (q0 := 0) rfl rfl, fun U hU hW => ⟨rfl, by rw [hU]; exact hP, va_K.moved hW.alike hK⟩⟩ rfl rfl hl.1 rfl (lv_room (Nat.le_of_ble_eq_true rfl)) dX1_debtAnew_6 ⟨Nat.zero_le _, Nat.zero_le _⟩) ?_
  refine W.eq (g2 := F0 m 9 ls [.long (lN (sm b k))]) rfl ?_
  refine nk_rd (W.runS (As := [.long (lN (sm b k))]) (rest := []) ⟨hx, hb, hml, hown, hts⟩ (c_X1_up l (sm b k) (by omega)) (va_cwS 1 hts gX1_debtAnew_X1_up rfl rfl rfl (by decide +kernel) ⟨Nat.le_of_ble_eq_true rfl, Nat.le_of_ble_eq_true rfl⟩) ⟨nk_P0.blind, fun U hU hW => ⟨rfl, trivial⟩⟩ rfl rfl hl.1 rfl (lv_room (Nat.le_of_ble_eq_true rfl)) dX1_debtAnew_9 ⟨Nat.zero_le _, Nat.zero_le _⟩) ?_
  refine W.eq (g2 := F0 m 12 ls [.long (lN (ceilA (sm b k)))]) rfl ?_
  exact W.lret (v := (lN (ceilA (sm b k)))) hx hb hr (fun t ht hW => ⟨⟨(lN (ceilA (sm b k))), wM g0 g1 g2 g3 g4 cI cJ d r gb w rm lc k dr pn pa pi 0 ga e2 b rt, rfl, ⟨rfl, rfl⟩, by rw [ht]; exact hP, va_K.moved hW.alike hK, hD⟩, hS.F ht⟩) hS.2.2 dX1_debtAnew_12
set_option maxHeartbeats 4000000 in
set_option maxRecDepth 100000 in
theorem c_X1_owed (l : Launch) (D : va_G) (g0 g1 g2 g3 g4 : Nat) (cI cJ : ClassId) (d r gb w rm lc k dr pn pa pi th : Nat) (ga e2 b rt : Nat → Nat) (sz : Nat)  (hk : k ≤ 20) (hbs : sm b k < 4611686018427387904) (hw : w ≤ 10000000) : Met l yX1_owed wsX1_owed { frames := 2, cells := 0, slots := 0, locals := 43 } (nk_Pw D (wM g0 g1 g2 g3 g4 cI cJ d r gb w rm lc k dr pn pa pi th ga e2 b rt) (tX cI cJ) sz [.ref g0]) (va_Ql (fun r9 w1 => r9 = lN (min (ceilA (sm b k)) w) ∧ w1 = wM g0 g1 g2 g3 g4 cI cJ d r gb w rm lc k dr pn pa pi 0 ga e2 b rt) (fun w1 t => nk_At D (tX cI cJ) (va_A (wM g0 g1 g2 g3 g4 cI cJ d r gb w rm lc k dr pn pa pi th ga e2 b rt) sz) w1 t) (va_A (wM g0 g1 g2 g3 g4 cI cJ d r gb w rm lc k dr pn pa pi th ga e2 b rt) sz)) 0 0 (va_A (wM g0 g1 g2 g3 g4 cI cJ d r gb w rm lc k dr pn pa pi th ga e2 b rt) sz) := by
  refine Met.ofW (cc := cX1_owed) (maxL := 1) (ret := (some .long)) (by decide) rfl ?_
  intro p e s m args below meth c s₁ B hml hv
  obtain ⟨hargs, hsz, hP, hK, hD0⟩ := hv
  have hx := B.exec
  have hb := B.bytes
  have hr := B.returns
  have hts := atoms_spec (ws := wsX1_owed) B.pre
  have hown : s.vm.findClass RX1 = some m.cls := findClass_of_methodNamed B.named
  have hlocks := B.notSynchronized
  subst hsz
  have hin : ∀ w ∈ wsX10, w ∈ wsX1_owed := by decide +kernel
  have hD := hD0.self (sz := s.heap.size)
  generalize hAe : va_A (wM g0 g1 g2 g3 g4 cI cJ d r gb w rm lc k dr pn pa pi th ga e2 b rt) s.heap.size = A at hD ⊢
  have hA : ∀ q : Nat, s.heap.size ≤ q → A q := fun q h => by rw [← hAe]; exact Or.inr h
  have hS : va_S A s.heap s.heap [] := va_S.rf
  have f27 := hts (.fieldLink RX1 27 "EquityReleaseModel" "thrown" "I") (by decide +kernel)
  have hl := lv_entry ([.ref g0]) (n := 1) (Nat.le_of_ble_eq_true rfl)
  have hEe : entryFrame m args 1 = entryFrame m ([.ref g0] : List Value).toArray 1 := by rw [hargs]
  rw [hEe, lg_entry_eq]
  generalize (lg_sl ([.ref g0]) ++ List.replicate (1 - (lg_sl ([.ref g0])).length) Slot.unset).toArray = ls at hl ⊢
  have hl : lv_has ls 1 [(0, .ref g0)] := hl
  refine lv_aload_n hx hb dX1_owed_0 rfl (lv_at hl 0 rfl) ?_
  refine lv_iconst (v := nI 0) hx hb dX1_owed_1 (by decide +kernel) ?_
  refine va_put (D := D) (ci := 1) (v := .int (nI 0)) (ty := .int) (C := RX1) (T := TX1) (N := 16) hx hb hts hin tyX1 tyX1_ok nmX1 hown hK hP hD hS 0 rfl rfl 15 (by decide) f27 (fun _ h9 => h9) rfl (by decide +kernel) rfl rfl (Nat.le_of_ble_eq_true rfl) dX1_owed_2 (fun H locs hP hD hS => ?_)
  have hP : va_P D vwCl (wM g0 g1 g2 g3 g4 cI cJ d r gb w rm lc k dr pn pa pi 0 ga e2 b rt) H := hP
  have hD : va_D A (wM g0 g1 g2 g3 g4 cI cJ d r gb w rm lc k dr pn pa pi 0 ga e2 b rt) := hD
  refine lv_aload_n hx hb dX1_owed_5 rfl (lv_at hl 0 rfl) ?_
  refine nk_rd (W.runV (As := []) (rest := []) ⟨hx, hb, hml, hown, hts⟩ (c_X1_owes l D g0 g1 g2 g3 g4 cI cJ d r gb w rm lc k dr pn pa pi 0 ga e2 b rt hk hbs hw) (cwV 0 hts gX1_owed_X1_owes rfl rfl rfl (by decide +kernel) ⟨Nat.le_of_ble_eq_true rfl, Nat.le_of_ble_eq_true rfl⟩) ⟨nk_Pr.blind, va_recv hK hP (ci := 1) (q0 := 0) rfl rfl, fun U hU hW => ⟨rfl, by rw [hU]; exact hP, va_K.moved hW.alike hK⟩⟩ rfl rfl hl.1 rfl (lv_room (Nat.le_of_ble_eq_true rfl)) dX1_owed_6 ⟨Nat.zero_le _, Nat.zero_le _⟩) ?_
  refine W.eq (g2 := F0 m 9 ls [.long (lN (min (ceilA (sm b k)) w))]) rfl ?_
  exact W.lret (v := (lN (min (ceilA (sm b k)) w))) hx hb hr (fun t ht hW => ⟨⟨(lN (min (ceilA (sm b k)) w)), wM g0 g1 g2 g3 g4 cI cJ d r gb w rm lc k dr pn pa pi 0 ga e2 b rt, rfl, ⟨rfl, rfl⟩, by rw [ht]; exact hP, va_K.moved hW.alike hK, hD⟩, hS.F ht⟩) hS.2.2 dX1_owed_9
set_option maxHeartbeats 4000000 in
set_option maxRecDepth 100000 in
theorem c_X1_spared (l : Launch) (D : va_G) (g0 g1 g2 g3 g4 : Nat) (cI cJ : ClassId) (d r gb w rm lc k dr pn pa pi th : Nat) (ga e2 b rt : Nat → Nat) (sz : Nat)  (hk : k ≤ 20) (hbs : sm b k < 4611686018427387904) (hw : w ≤ 10000000) : Met l yX1_spared wsX1_spared { frames := 2, cells := 0, slots := 0, locals := 43 } (nk_Pw D (wM g0 g1 g2 g3 g4 cI cJ d r gb w rm lc k dr pn pa pi th ga e2 b rt) (tX cI cJ) sz [.ref g0]) (va_Ql (fun r9 w1 => r9 = lN (ceilA (sm b k) - min (ceilA (sm b k)) w) ∧ w1 = wM g0 g1 g2 g3 g4 cI cJ d r gb w rm lc k dr pn pa pi 0 ga e2 b rt) (fun w1 t => nk_At D (tX cI cJ) (va_A (wM g0 g1 g2 g3 g4 cI cJ d r gb w rm lc k dr pn pa pi th ga e2 b rt) sz) w1 t) (va_A (wM g0 g1 g2 g3 g4 cI cJ d r gb w rm lc k dr pn pa pi th ga e2 b rt) sz)) 0 0 (va_A (wM g0 g1 g2 g3 g4 cI cJ d r gb w rm lc k dr pn pa pi th ga e2 b rt) sz) := by
  refine Met.ofW (cc := cX1_spared) (maxL := 1) (ret := (some .long)) (by decide) rfl ?_
  intro p e s m args below meth c s₁ B hml hv
  obtain ⟨hargs, hsz, hP, hK, hD0⟩ := hv
  have hx := B.exec
  have hb := B.bytes
  have hr := B.returns
  have hts := atoms_spec (ws := wsX1_spared) B.pre
  have hown : s.vm.findClass RX1 = some m.cls := findClass_of_methodNamed B.named
  have hlocks := B.notSynchronized
  subst hsz
  have hin : ∀ w ∈ wsX10, w ∈ wsX1_spared := by decide +kernel
  have hD := hD0.self (sz := s.heap.size)
  generalize hAe : va_A (wM g0 g1 g2 g3 g4 cI cJ d r gb w rm lc k dr pn pa pi th ga e2 b rt) s.heap.size = A at hD ⊢
  have hA : ∀ q : Nat, s.heap.size ≤ q → A q := fun q h => by rw [← hAe]; exact Or.inr h
  have hS : va_S A s.heap s.heap [] := va_S.rf
  have f27 := hts (.fieldLink RX1 27 "EquityReleaseModel" "thrown" "I") (by decide +kernel)
  have hl := lv_entry ([.ref g0]) (n := 1) (Nat.le_of_ble_eq_true rfl)
  have hEe : entryFrame m args 1 = entryFrame m ([.ref g0] : List Value).toArray 1 := by rw [hargs]
  rw [hEe, lg_entry_eq]
  generalize (lg_sl ([.ref g0]) ++ List.replicate (1 - (lg_sl ([.ref g0])).length) Slot.unset).toArray = ls at hl ⊢
  have hl : lv_has ls 1 [(0, .ref g0)] := hl
  refine lv_aload_n hx hb dX1_spared_0 rfl (lv_at hl 0 rfl) ?_
  refine lv_iconst (v := nI 0) hx hb dX1_spared_1 (by decide +kernel) ?_
  refine va_put (D := D) (ci := 1) (v := .int (nI 0)) (ty := .int) (C := RX1) (T := TX1) (N := 16) hx hb hts hin tyX1 tyX1_ok nmX1 hown hK hP hD hS 0 rfl rfl 15 (by decide) f27 (fun _ h9 => h9) rfl (by decide +kernel) rfl rfl (Nat.le_of_ble_eq_true rfl) dX1_spared_2 (fun H locs hP hD hS => ?_)
  have hP : va_P D vwCl (wM g0 g1 g2 g3 g4 cI cJ d r gb w rm lc k dr pn pa pi 0 ga e2 b rt) H := hP
  have hD : va_D A (wM g0 g1 g2 g3 g4 cI cJ d r gb w rm lc k dr pn pa pi 0 ga e2 b rt) := hD
  refine lv_aload_n hx hb dX1_spared_5 rfl (lv_at hl 0 rfl) ?_
  refine nk_rd (W.runV (As := []) (rest := []) ⟨hx, hb, hml, hown, hts⟩ (c_X1_all l D g0 g1 g2 g3 g4 cI cJ d r gb w rm lc k dr pn pa pi 0 ga e2 b rt hk) (cwV 0 hts gX1_spared_X1_all rfl rfl rfl (by decide +kernel) ⟨Nat.le_of_ble_eq_true rfl, Nat.le_of_ble_eq_true rfl⟩) ⟨nk_Pr.blind, va_recv hK hP (ci := 1) (q0 := 0) rfl rfl, fun U hU hW => ⟨rfl, by rw [hU]; exact hP, va_K.moved hW.alike hK⟩⟩ rfl rfl hl.1 rfl (lv_room (Nat.le_of_ble_eq_true rfl)) dX1_spared_6 ⟨Nat.zero_le _, Nat.zero_le _⟩) ?_
  refine W.eq (g2 := F0 m 9 ls [.long (lN (sm b k))]) rfl ?_
  refine nk_rd (W.runS (As := [.long (lN (sm b k))]) (rest := []) ⟨hx, hb, hml, hown, hts⟩ (c_X1_up l (sm b k) (by omega)) (va_cwS 1 hts gX1_spared_X1_up rfl rfl rfl (by decide +kernel) ⟨Nat.le_of_ble_eq_true rfl, Nat.le_of_ble_eq_true rfl⟩) ⟨nk_P0.blind, fun U hU hW => ⟨rfl, trivial⟩⟩ rfl rfl hl.1 rfl (lv_room (Nat.le_of_ble_eq_true rfl)) dX1_spared_9 ⟨Nat.zero_le _, Nat.zero_le _⟩) ?_
  refine W.eq (g2 := F0 m 12 ls [.long (lN (ceilA (sm b k)))]) rfl ?_
  refine lv_aload_n hx hb dX1_spared_12 rfl (lv_at hl 0 rfl) ?_
  refine nk_rd (W.runV (As := []) (rest := [.long (lN (ceilA (sm b k)))]) ⟨hx, hb, hml, hown, hts⟩ (c_X1_owes l D g0 g1 g2 g3 g4 cI cJ d r gb w rm lc k dr pn pa pi 0 ga e2 b rt hk hbs hw) (cwV 0 hts gX1_spared_X1_owes rfl rfl rfl (by decide +kernel) ⟨Nat.le_of_ble_eq_true rfl, Nat.le_of_ble_eq_true rfl⟩) ⟨nk_Pr.blind, va_recv hK hP (ci := 1) (q0 := 0) rfl rfl, fun U hU hW => ⟨rfl, by rw [hU]; exact hP, va_K.moved hW.alike hK⟩⟩ rfl rfl hl.1 rfl (lv_room (Nat.le_of_ble_eq_true rfl)) dX1_spared_13 ⟨Nat.zero_le _, Nat.zero_le _⟩) ?_
  refine W.eq (g2 := F0 m 16 ls [.long (lN (min (ceilA (sm b k)) w)), .long (lN (ceilA (sm b k)))]) rfl ?_
  refine nk_lsub hx hb (Nat.min_le_left _ _) dX1_spared_16 ?_
  exact W.lret (v := (lN ((ceilA (sm b k)) - (min (ceilA (sm b k)) w)))) hx hb hr (fun t ht hW => ⟨⟨(lN ((ceilA (sm b k)) - (min (ceilA (sm b k)) w))), wM g0 g1 g2 g3 g4 cI cJ d r gb w rm lc k dr pn pa pi 0 ga e2 b rt, rfl, ⟨rfl, rfl⟩, by rw [ht]; exact hP, va_K.moved hW.alike hK, hD⟩, hS.F ht⟩) hS.2.2 dX1_spared_17
set_option maxHeartbeats 4000000 in
set_option maxRecDepth 100000 in
theorem c_X1_allowance (l : Launch) (D : va_G) (g0 g1 g2 g3 g4 : Nat) (cI cJ : ClassId) (d r gb w rm lc k dr pn pa pi th : Nat) (ga e2 b rt : Nat → Nat) (sz : Nat)  (hgb : gb ≤ d + 1) (hd : d ≤ 15000) (hpi : pi ≤ 15000) (hdr : dr ≤ 1000000000) (hpa1 : pa ≤ 1000000000) : Met l yX1_allowance wsX1_allowance { frames := 2, cells := 0, slots := 0, locals := 42 } (nk_Pw D (wM g0 g1 g2 g3 g4 cI cJ d r gb w rm lc k dr pn pa pi th ga e2 b rt) (tX cI cJ) sz [.ref g0]) (va_Qi (fun r9 w1 => r9 = nI (if gb = 0 then 0 else dr / 10 - (if pi = (d + 1 - gb) / 365 then pa else 0)) ∧ w1 = wM g0 g1 g2 g3 g4 cI cJ d r gb w rm lc k dr pn pa pi 0 ga e2 b rt) (fun w1 t => nk_At D (tX cI cJ) (va_A (wM g0 g1 g2 g3 g4 cI cJ d r gb w rm lc k dr pn pa pi th ga e2 b rt) sz) w1 t) (va_A (wM g0 g1 g2 g3 g4 cI cJ d r gb w rm lc k dr pn pa pi th ga e2 b rt) sz)) 0 0 (va_A (wM g0 g1 g2 g3 g4 cI cJ d r gb w rm lc k dr pn pa pi th ga e2 b rt) sz) := by
  refine Met.ofW (cc := cX1_allowance) (maxL := 1) (ret := (some .int)) (by decide) rfl ?_
  intro p e s m args below meth c s₁ B hml hv
  obtain ⟨hargs, hsz, hP, hK, hD0⟩ := hv
  have hx := B.exec
  have hb := B.bytes
  have hr := B.returns
  have hts := atoms_spec (ws := wsX1_allowance) B.pre
  have hown : s.vm.findClass RX1 = some m.cls := findClass_of_methodNamed B.named
  have hlocks := B.notSynchronized
  subst hsz
  have hin : ∀ w ∈ wsX10, w ∈ wsX1_allowance := by decide +kernel
  have hD := hD0.self (sz := s.heap.size)
  generalize hAe : va_A (wM g0 g1 g2 g3 g4 cI cJ d r gb w rm lc k dr pn pa pi th ga e2 b rt) s.heap.size = A at hD ⊢
  have hA : ∀ q : Nat, s.heap.size ≤ q → A q := fun q h => by rw [← hAe]; exact Or.inr h
  have hS : va_S A s.heap s.heap [] := va_S.rf
  have f27 := hts (.fieldLink RX1 27 "EquityReleaseModel" "thrown" "I") (by decide +kernel)
  have f33 := hts (.fieldLink RX1 33 "EquityReleaseModel" "begun" "I") (by decide +kernel)
  have hl := lv_entry ([.ref g0]) (n := 1) (Nat.le_of_ble_eq_true rfl)
  have hEe : entryFrame m args 1 = entryFrame m ([.ref g0] : List Value).toArray 1 := by rw [hargs]
  rw [hEe, lg_entry_eq]
  generalize (lg_sl ([.ref g0]) ++ List.replicate (1 - (lg_sl ([.ref g0])).length) Slot.unset).toArray = ls at hl ⊢
  have hl : lv_has ls 1 [(0, .ref g0)] := hl
  refine lv_aload_n hx hb dX1_allowance_0 rfl (lv_at hl 0 rfl) ?_
  refine lv_iconst (v := nI 0) hx hb dX1_allowance_1 (by decide +kernel) ?_
  refine va_put (D := D) (ci := 1) (v := .int (nI 0)) (ty := .int) (C := RX1) (T := TX1) (N := 16) hx hb hts hin tyX1 tyX1_ok nmX1 hown hK hP hD hS 0 rfl rfl 15 (by decide) f27 (fun _ h9 => h9) rfl (by decide +kernel) rfl rfl (Nat.le_of_ble_eq_true rfl) dX1_allowance_2 (fun H locs hP hD hS => ?_)
  have hP : va_P D vwCl (wM g0 g1 g2 g3 g4 cI cJ d r gb w rm lc k dr pn pa pi 0 ga e2 b rt) H := hP
  have hD : va_D A (wM g0 g1 g2 g3 g4 cI cJ d r gb w rm lc k dr pn pa pi 0 ga e2 b rt) := hD
  refine lv_aload_n hx hb dX1_allowance_5 rfl (lv_at hl 0 rfl) ?_
  refine va_get (D := D) (ci := 1) (v := .int (nI gb)) (C := RX1) (T := TX1) (N := 16) hx hb hts hin hown hK hP 0 rfl rfl 2 (by decide) f33 (fun _ h9 => h9) rfl dX1_allowance_6 ?_
  refine nk_if_ne (tgt := 16) hx hb (by omega) dX1_allowance_9 (by decide) (fun c9 => ?_) (fun c9 => ?_)
  · refine lv_aload_n hx hb dX1_allowance_16 rfl (lv_at hl 0 rfl) ?_
    refine nk_rd (W.runV (As := []) (rest := []) ⟨hx, hb, hml, hown, hts⟩ (c_X1_free l D g0 g1 g2 g3 g4 cI cJ d r gb w rm lc k dr pn pa pi 0 ga e2 b rt hgb hd hpi hdr hpa1) (cwV 0 hts gX1_allowance_X1_free rfl rfl rfl (by decide +kernel) ⟨Nat.le_of_ble_eq_true rfl, Nat.le_of_ble_eq_true rfl⟩) ⟨nk_Pr.blind, va_recv hK hP (ci := 1) (q0 := 0) rfl rfl, fun U hU hW => ⟨rfl, by rw [hU]; exact hP, va_K.moved hW.alike hK⟩⟩ rfl rfl hl.1 rfl (lv_room (Nat.le_of_ble_eq_true rfl)) dX1_allowance_17 ⟨Nat.zero_le _, Nat.zero_le _⟩) ?_
    refine W.eq (g2 := F0 m 20 ls [.long (lN (dr / 10 - (if pi = (d + 1 - gb) / 365 then pa else 0)))]) rfl ?_
    refine nk_l2i hx hb dX1_allowance_20 ?_
    exact W.iret (v := (nI (dr / 10 - (if pi = (d + 1 - gb) / 365 then pa else 0)))) hx hb hr (fun t ht hW => ⟨⟨(nI (dr / 10 - (if pi = (d + 1 - gb) / 365 then pa else 0))), wM g0 g1 g2 g3 g4 cI cJ d r gb w rm lc k dr pn pa pi 0 ga e2 b rt, rfl, ⟨by rw [if_neg (show ¬ gb = 0 by omega)], rfl⟩, by rw [ht]; exact hP, va_K.moved hW.alike hK, hD⟩, hS.F ht⟩) hS.2.2 dX1_allowance_21
  · refine lv_iconst (v := nI 0) hx hb dX1_allowance_12 (by decide +kernel) ?_
    refine lv_goto (tgt := 21) hx hb dX1_allowance_13 (by decide) ?_
    exact W.iret (v := (nI 0)) hx hb hr (fun t ht hW => ⟨⟨(nI 0), wM g0 g1 g2 g3 g4 cI cJ d r gb w rm lc k dr pn pa pi 0 ga e2 b rt, rfl, ⟨by rw [if_pos c9], rfl⟩, by rw [ht]; exact hP, va_K.moved hW.alike hK, hD⟩, hS.F ht⟩) hS.2.2 dX1_allowance_21
set_option maxHeartbeats 4000000 in
set_option maxRecDepth 100000 in
theorem c_X1_setRate (l : Launch) (D : va_G) (g0 g1 g2 g3 g4 : Nat) (cI cJ : ClassId) (d r gb w rm lc k dr pn pa pi th : Nat) (ga e2 b rt : Nat → Nat) (sz : Nat) (p0 : Int32) (z : Int) (a9 : Nat)  (hz : p0.toInt = z) (hpa : 0 ≤ z → p0 = nI a9 ∧ a9 < 2147483648)  : Met l yX1_setRate wsX1_setRate { frames := 1, cells := 0, slots := 0, locals := 22 } (nk_Pw D (wM g0 g1 g2 g3 g4 cI cJ d r gb w rm lc k dr pn pa pi th ga e2 b rt) (tX cI cJ) sz [.ref g0, .int p0]) (va_Qi (fun r9 w1 => (¬ (0 ≤ z ∧ z ≤ 2000) ∧ w1 = wM g0 g1 g2 g3 g4 cI cJ d r gb w rm lc k dr pn pa pi 1 ga e2 b rt) ∨ ((0 ≤ z ∧ z ≤ 2000) ∧ r9 = nI r ∧ w1 = wM g0 g1 g2 g3 g4 cI cJ d a9 gb w rm lc k dr pn pa pi 0 ga e2 b rt)) (fun w1 t => nk_At D (tX cI cJ) (va_A (wM g0 g1 g2 g3 g4 cI cJ d r gb w rm lc k dr pn pa pi th ga e2 b rt) sz) w1 t) (va_A (wM g0 g1 g2 g3 g4 cI cJ d r gb w rm lc k dr pn pa pi th ga e2 b rt) sz)) 0 0 (va_A (wM g0 g1 g2 g3 g4 cI cJ d r gb w rm lc k dr pn pa pi th ga e2 b rt) sz) := by
  refine Met.ofW (cc := cX1_setRate) (maxL := 3) (ret := (some .int)) (by decide) rfl ?_
  intro p e s m args below meth c s₁ B hml hv
  obtain ⟨hargs, hsz, hP, hK, hD0⟩ := hv
  have hx := B.exec
  have hb := B.bytes
  have hr := B.returns
  have hts := atoms_spec (ws := wsX1_setRate) B.pre
  have hown : s.vm.findClass RX1 = some m.cls := findClass_of_methodNamed B.named
  have hlocks := B.notSynchronized
  subst hsz
  have hin : ∀ w ∈ wsX10, w ∈ wsX1_setRate := by decide +kernel
  have hD := hD0.self (sz := s.heap.size)
  generalize hAe : va_A (wM g0 g1 g2 g3 g4 cI cJ d r gb w rm lc k dr pn pa pi th ga e2 b rt) s.heap.size = A at hD ⊢
  have hA : ∀ q : Nat, s.heap.size ≤ q → A q := fun q h => by rw [← hAe]; exact Or.inr h
  have hS : va_S A s.heap s.heap [] := va_S.rf
  have f27 := hts (.fieldLink RX1 27 "EquityReleaseModel" "thrown" "I") (by decide +kernel)
  have f7 := hts (.fieldLink RX1 7 "EquityReleaseModel" "rate" "I") (by decide +kernel)
  have hl := lv_entry ([.ref g0, .int p0]) (n := 3) (Nat.le_of_ble_eq_true rfl)
  have hEe : entryFrame m args 3 = entryFrame m ([.ref g0, .int p0] : List Value).toArray 3 := by rw [hargs]
  rw [hEe, lg_entry_eq]
  generalize (lg_sl ([.ref g0, .int p0]) ++ List.replicate (3 - (lg_sl ([.ref g0, .int p0])).length) Slot.unset).toArray = ls at hl ⊢
  have hl : lv_has ls 3 [(0, .ref g0), (1, .int p0)] := hl
  refine lv_aload_n hx hb dX1_setRate_0 rfl (lv_at hl 0 rfl) ?_
  refine lv_iload_n hx hb dX1_setRate_1 rfl (lv_at hl 1 rfl) ?_
  refine lv_iconst (v := nI 0) hx hb dX1_setRate_2 (by decide +kernel) ?_
  refine lv_sipush (v := nI 2000) hx hb dX1_setRate_3 (by decide +kernel) ?_
  refine nk_rd (W.runS (As := [.int p0, .int (nI 0), .int (nI 2000)]) (rest := [.ref g0]) ⟨hx, hb, hml, hown, hts⟩ (c_X1_in l p0 (nI 0) (nI 2000) z ((0 : Nat) : Int) ((2000 : Nat) : Int) hz (nI_toInt (by omega)) (nI_toInt (by omega))) (va_cwS 3 hts gX1_setRate_X1_in rfl rfl rfl (by decide +kernel) ⟨Nat.le_of_ble_eq_true rfl, Nat.le_of_ble_eq_true rfl⟩) ⟨nk_P0.blind, fun U hU hW => ⟨rfl, trivial⟩⟩ rfl rfl hl.1 rfl (lv_room (Nat.le_of_ble_eq_true rfl)) dX1_setRate_6 ⟨Nat.zero_le _, Nat.zero_le _⟩) ?_
  refine W.eq (g2 := F0 m 9 ls [.int (nI (if ((0 : Nat) : Int) ≤ z ∧ z ≤ ((2000 : Nat) : Int) then 1 else 0)), .ref g0]) rfl ?_
  refine nk_bif_eq (tgt := 16) hx hb dX1_setRate_9 (by decide) (fun c9 => ?_) (fun c9 => ?_)
  · refine lv_iconst (v := nI 1) hx hb dX1_setRate_16 (by decide +kernel) ?_
    refine va_put (D := D) (ci := 1) (v := .int (nI 1)) (ty := .int) (C := RX1) (T := TX1) (N := 16) hx hb hts hin tyX1 tyX1_ok nmX1 hown hK hP hD hS 0 rfl rfl 15 (by decide) f27 (fun _ h9 => h9) rfl (by decide +kernel) rfl rfl (Nat.le_of_ble_eq_true rfl) dX1_setRate_17 (fun H locs hP hD hS => ?_)
    have hP : va_P D vwCl (wM g0 g1 g2 g3 g4 cI cJ d r gb w rm lc k dr pn pa pi 1 ga e2 b rt) H := hP
    have hD : va_D A (wM g0 g1 g2 g3 g4 cI cJ d r gb w rm lc k dr pn pa pi 1 ga e2 b rt) := hD
    refine lv_aload_n hx hb dX1_setRate_20 rfl (lv_at hl 0 rfl) ?_
    refine va_get (D := D) (ci := 1) (v := .int (nI r)) (C := RX1) (T := TX1) (N := 16) hx hb hts hin hown hK hP 0 rfl rfl 1 (by decide) f7 (fun _ h9 => h9) rfl dX1_setRate_21 ?_
    refine lv_istore_n (lv' := [(2, .int (nI r)), (0, .ref g0), (1, .int p0)]) hx hb dX1_setRate_24 rfl hl (by decide) rfl (fun ls hl => ?_)
    refine lv_aload_n hx hb dX1_setRate_25 rfl (lv_at hl 1 rfl) ?_
    refine lv_aload_n hx hb dX1_setRate_26 rfl (lv_at hl 1 rfl) ?_
    refine va_get (D := D) (ci := 1) (v := .int (nI 1)) (C := RX1) (T := TX1) (N := 16) hx hb hts hin hown hK hP 0 rfl rfl 15 (by decide) f27 (fun _ h9 => h9) rfl dX1_setRate_27 ?_
    refine nk_if_ne (tgt := 37) hx hb (by omega) dX1_setRate_30 (by decide) (fun c30 => ?_) (fun c30 => ?_)
    · refine lv_iload_n hx hb dX1_setRate_37 rfl (lv_at hl 0 rfl) ?_
      refine va_put (D := D) (ci := 1) (v := .int (nI r)) (ty := .int) (C := RX1) (T := TX1) (N := 16) hx hb hts hin tyX1 tyX1_ok nmX1 hown hK hP hD hS 0 rfl rfl 1 (by decide) f7 (fun _ h9 => h9) rfl (by decide +kernel) rfl rfl (Nat.le_of_ble_eq_true rfl) dX1_setRate_38 (fun H locs hP hD hS => ?_)
      have hP : va_P D vwCl (wM g0 g1 g2 g3 g4 cI cJ d r gb w rm lc k dr pn pa pi 1 ga e2 b rt) H := hP
      have hD : va_D A (wM g0 g1 g2 g3 g4 cI cJ d r gb w rm lc k dr pn pa pi 1 ga e2 b rt) := hD
      refine lv_aload_n hx hb dX1_setRate_41 rfl (lv_at hl 1 rfl) ?_
      refine va_get (D := D) (ci := 1) (v := .int (nI 1)) (C := RX1) (T := TX1) (N := 16) hx hb hts hin hown hK hP 0 rfl rfl 15 (by decide) f27 (fun _ h9 => h9) rfl dX1_setRate_42 ?_
      refine nk_if_ne (tgt := 52) hx hb (by omega) dX1_setRate_45 (by decide) (fun c45 => ?_) (fun c45 => ?_)
      · refine lv_iconst (v := nI 0) hx hb dX1_setRate_52 (by decide +kernel) ?_
        exact W.iret (v := (nI 0)) hx hb hr (fun t ht hW => ⟨⟨(nI 0), wM g0 g1 g2 g3 g4 cI cJ d r gb w rm lc k dr pn pa pi 1 ga e2 b rt, rfl, Or.inl ⟨by omega, rfl⟩, by rw [ht]; exact hP, va_K.moved hW.alike hK, hD⟩, hS.F ht⟩) hS.2.2 dX1_setRate_53
      · exfalso; omega
    · exfalso; omega
  · refine lv_iconst (v := nI 0) hx hb dX1_setRate_12 (by decide +kernel) ?_
    refine lv_goto (tgt := 17) hx hb dX1_setRate_13 (by decide) ?_
    refine va_put (D := D) (ci := 1) (v := .int (nI 0)) (ty := .int) (C := RX1) (T := TX1) (N := 16) hx hb hts hin tyX1 tyX1_ok nmX1 hown hK hP hD hS 0 rfl rfl 15 (by decide) f27 (fun _ h9 => h9) rfl (by decide +kernel) rfl rfl (Nat.le_of_ble_eq_true rfl) dX1_setRate_17 (fun H locs hP hD hS => ?_)
    have hP : va_P D vwCl (wM g0 g1 g2 g3 g4 cI cJ d r gb w rm lc k dr pn pa pi 0 ga e2 b rt) H := hP
    have hD : va_D A (wM g0 g1 g2 g3 g4 cI cJ d r gb w rm lc k dr pn pa pi 0 ga e2 b rt) := hD
    obtain ⟨rfl, ha9⟩ := hpa (by omega)
    have za : z = (a9 : Int) := by rw [← hz]; exact nI_toInt (by omega)
    refine lv_aload_n hx hb dX1_setRate_20 rfl (lv_at hl 0 rfl) ?_
    refine va_get (D := D) (ci := 1) (v := .int (nI r)) (C := RX1) (T := TX1) (N := 16) hx hb hts hin hown hK hP 0 rfl rfl 1 (by decide) f7 (fun _ h9 => h9) rfl dX1_setRate_21 ?_
    refine lv_istore_n (lv' := [(2, .int (nI r)), (0, .ref g0), (1, .int (nI a9))]) hx hb dX1_setRate_24 rfl hl (by decide) rfl (fun ls hl => ?_)
    refine lv_aload_n hx hb dX1_setRate_25 rfl (lv_at hl 1 rfl) ?_
    refine lv_aload_n hx hb dX1_setRate_26 rfl (lv_at hl 1 rfl) ?_
    refine va_get (D := D) (ci := 1) (v := .int (nI 0)) (C := RX1) (T := TX1) (N := 16) hx hb hts hin hown hK hP 0 rfl rfl 15 (by decide) f27 (fun _ h9 => h9) rfl dX1_setRate_27 ?_
    refine nk_if_ne (tgt := 37) hx hb (by omega) dX1_setRate_30 (by decide) (fun c30 => ?_) (fun c30 => ?_)
    · exfalso; omega
    · refine lv_iload_n hx hb dX1_setRate_33 rfl (lv_at hl 2 rfl) ?_
      refine lv_goto (tgt := 38) hx hb dX1_setRate_34 (by decide) ?_
      refine va_put (D := D) (ci := 1) (v := .int (nI a9)) (ty := .int) (C := RX1) (T := TX1) (N := 16) hx hb hts hin tyX1 tyX1_ok nmX1 hown hK hP hD hS 0 rfl rfl 1 (by decide) f7 (fun _ h9 => h9) rfl (by decide +kernel) rfl rfl (Nat.le_of_ble_eq_true rfl) dX1_setRate_38 (fun H locs hP hD hS => ?_)
      have hP : va_P D vwCl (wM g0 g1 g2 g3 g4 cI cJ d a9 gb w rm lc k dr pn pa pi 0 ga e2 b rt) H := hP
      have hD : va_D A (wM g0 g1 g2 g3 g4 cI cJ d a9 gb w rm lc k dr pn pa pi 0 ga e2 b rt) := hD
      refine lv_aload_n hx hb dX1_setRate_41 rfl (lv_at hl 1 rfl) ?_
      refine va_get (D := D) (ci := 1) (v := .int (nI 0)) (C := RX1) (T := TX1) (N := 16) hx hb hts hin hown hK hP 0 rfl rfl 15 (by decide) f27 (fun _ h9 => h9) rfl dX1_setRate_42 ?_
      refine nk_if_ne (tgt := 52) hx hb (by omega) dX1_setRate_45 (by decide) (fun c45 => ?_) (fun c45 => ?_)
      · exfalso; omega
      · refine lv_iload_n hx hb dX1_setRate_48 rfl (lv_at hl 0 rfl) ?_
        refine lv_goto (tgt := 53) hx hb dX1_setRate_49 (by decide) ?_
        exact W.iret (v := (nI r)) hx hb hr (fun t ht hW => ⟨⟨(nI r), wM g0 g1 g2 g3 g4 cI cJ d a9 gb w rm lc k dr pn pa pi 0 ga e2 b rt, rfl, Or.inr ⟨by omega, rfl, rfl⟩, by rw [ht]; exact hP, va_K.moved hW.alike hK, hD⟩, hS.F ht⟩) hS.2.2 dX1_setRate_53
set_option maxHeartbeats 4000000 in
set_option maxRecDepth 100000 in
theorem c_X1_draw (l : Launch) (D : va_G) (g0 g1 g2 g3 g4 : Nat) (cI cJ : ClassId) (d r gb w rm lc k dr pn pa pi th : Nat) (ga e2 b rt : Nat → Nat) (sz : Nat) (p0 : Int32) (z : Int) (a9 : Nat)  (hz : p0.toInt = z) (hpa : 0 ≤ z → p0 = nI a9 ∧ a9 < 2147483648) (hgb2 : gb ≤ 15001) (hlc : lc ≤ 2) (he2 : ∀ j, j < lc → e2 j ≤ 15001) (hk : k ≤ 20) (hrm : rm ≤ 10000000) : Met l yX1_draw wsX1_draw { frames := 2, cells := 0, slots := 0, locals := 42 } (nk_Pw D (wM g0 g1 g2 g3 g4 cI cJ d r gb w rm lc k dr pn pa pi th ga e2 b rt) (tX cI cJ) sz [.ref g0, .int p0]) (va_Qi (fun r9 w1 => (¬ (1 ≤ z ∧ z ≤ 10000000) ∧ w1 = wM g0 g1 g2 g3 g4 cI cJ d r gb w rm lc k dr pn pa pi 1 ga e2 b rt) ∨ ((1 ≤ z ∧ z ≤ 10000000) ∧ ¬ ((0 < gb ∧ 0 < alive e2 lc) ∧ (a9 ≤ rm ∧ k < 20)) ∧ w1 = wM g0 g1 g2 g3 g4 cI cJ d r gb w rm lc k dr pn pa pi 2 ga e2 b rt) ∨ ((1 ≤ z ∧ z ≤ 10000000) ∧ ((0 < gb ∧ 0 < alive e2 lc) ∧ (a9 ≤ rm ∧ k < 20)) ∧ r9 = nI (rm - a9) ∧ w1 = wM g0 g1 g2 g3 g4 cI cJ d r gb w (rm - a9) lc (k + 1) (dr + a9) pn pa pi 0 ga e2 (va_up b k (a9 * 10000)) (va_up rt k r))) (fun w1 t => nk_At D (tX cI cJ) (va_A (wM g0 g1 g2 g3 g4 cI cJ d r gb w rm lc k dr pn pa pi th ga e2 b rt) sz) w1 t) (va_A (wM g0 g1 g2 g3 g4 cI cJ d r gb w rm lc k dr pn pa pi th ga e2 b rt) sz)) 0 0 (va_A (wM g0 g1 g2 g3 g4 cI cJ d r gb w rm lc k dr pn pa pi th ga e2 b rt) sz) := by
  refine Met.ofW (cc := cX1_draw) (maxL := 2) (ret := (some .int)) (by decide) rfl ?_
  intro p e s m args below meth c s₁ B hml hv
  obtain ⟨hargs, hsz, hP, hK, hD0⟩ := hv
  have hx := B.exec
  have hb := B.bytes
  have hr := B.returns
  have hts := atoms_spec (ws := wsX1_draw) B.pre
  have hown : s.vm.findClass RX1 = some m.cls := findClass_of_methodNamed B.named
  have hlocks := B.notSynchronized
  subst hsz
  have hin : ∀ w ∈ wsX10, w ∈ wsX1_draw := by decide +kernel
  have hD := hD0.self (sz := s.heap.size)
  generalize hAe : va_A (wM g0 g1 g2 g3 g4 cI cJ d r gb w rm lc k dr pn pa pi th ga e2 b rt) s.heap.size = A at hD ⊢
  have hA : ∀ q : Nat, s.heap.size ≤ q → A q := fun q h => by rw [← hAe]; exact Or.inr h
  have hS : va_S A s.heap s.heap [] := va_S.rf
  have k57 : (Cond.constant RX1 57 (nI 10000000)).before args s = true := by
    rw [show (nI 10000000 : Int32) = 10000000 from by decide +kernel]
    exact hts (.constant RX1 57 (10000000)) (by decide +kernel)
  have f27 := hts (.fieldLink RX1 27 "EquityReleaseModel" "thrown" "I") (by decide +kernel)
  have f72 := hts (.fieldLink RX1 72 "EquityReleaseModel" "room" "I") (by decide +kernel)
  have f48 := hts (.fieldLink RX1 48 "EquityReleaseModel" "drawings" "I") (by decide +kernel)
  have hl := lv_entry ([.ref g0, .int p0]) (n := 2) (Nat.le_of_ble_eq_true rfl)
  have hEe : entryFrame m args 2 = entryFrame m ([.ref g0, .int p0] : List Value).toArray 2 := by rw [hargs]
  rw [hEe, lg_entry_eq]
  generalize (lg_sl ([.ref g0, .int p0]) ++ List.replicate (2 - (lg_sl ([.ref g0, .int p0])).length) Slot.unset).toArray = ls at hl ⊢
  have hl : lv_has ls 2 [(0, .ref g0), (1, .int p0)] := hl
  refine lv_aload_n hx hb dX1_draw_0 rfl (lv_at hl 0 rfl) ?_
  refine lv_iload_n hx hb dX1_draw_1 rfl (lv_at hl 1 rfl) ?_
  refine lv_iconst (v := nI 1) hx hb dX1_draw_2 (by decide +kernel) ?_
  refine lv_ldc (v := nI 10000000) hx hb hown k57 dX1_draw_3 ?_
  refine nk_rd (W.runS (As := [.int p0, .int (nI 1), .int (nI 10000000)]) (rest := [.ref g0]) ⟨hx, hb, hml, hown, hts⟩ (c_X1_in l p0 (nI 1) (nI 10000000) z ((1 : Nat) : Int) ((10000000 : Nat) : Int) hz (nI_toInt (by omega)) (nI_toInt (by omega))) (va_cwS 3 hts gX1_draw_X1_in rfl rfl rfl (by decide +kernel) ⟨Nat.le_of_ble_eq_true rfl, Nat.le_of_ble_eq_true rfl⟩) ⟨nk_P0.blind, fun U hU hW => ⟨rfl, trivial⟩⟩ rfl rfl hl.1 rfl (lv_room (Nat.le_of_ble_eq_true rfl)) dX1_draw_5 ⟨Nat.zero_le _, Nat.zero_le _⟩) ?_
  refine W.eq (g2 := F0 m 8 ls [.int (nI (if ((1 : Nat) : Int) ≤ z ∧ z ≤ ((10000000 : Nat) : Int) then 1 else 0)), .ref g0]) rfl ?_
  refine nk_bif_ne (tgt := 15) hx hb dX1_draw_8 (by decide) (fun c8 => ?_) (fun c8 => ?_)
  · obtain ⟨rfl, ha9⟩ := hpa (by omega)
    have za : z = (a9 : Int) := by rw [← hz]; exact nI_toInt (by omega)
    refine lv_aload_n hx hb dX1_draw_15 rfl (lv_at hl 0 rfl) ?_
    refine nk_rd (W.runV (As := []) (rest := [.ref g0]) ⟨hx, hb, hml, hown, hts⟩ (c_X1_isOn l D g0 g1 g2 g3 g4 cI cJ d r gb w rm lc k dr pn pa pi th ga e2 b rt (by omega) hlc he2) (cwV 0 hts gX1_draw_X1_isOn rfl rfl rfl (by decide +kernel) ⟨Nat.le_of_ble_eq_true rfl, Nat.le_of_ble_eq_true rfl⟩) ⟨nk_Pr.blind, va_recv hK hP (ci := 1) (q0 := 0) rfl rfl, fun U hU hW => ⟨rfl, by rw [hU]; exact hP, va_K.moved hW.alike hK⟩⟩ rfl rfl hl.1 rfl (lv_room (Nat.le_of_ble_eq_true rfl)) dX1_draw_16 ⟨Nat.zero_le _, Nat.zero_le _⟩) ?_
    refine W.eq (g2 := F0 m 19 ls [.int (nI (if 0 < gb ∧ 0 < alive e2 lc then 1 else 0)), .ref g0]) rfl ?_
    refine nk_bif_eq (tgt := 39) hx hb dX1_draw_19 (by decide) (fun c19 => ?_) (fun c19 => ?_)
    · refine lv_iconst (v := nI 2) hx hb dX1_draw_39 (by decide +kernel) ?_
      refine lv_goto (tgt := 44) hx hb dX1_draw_40 (by decide) ?_
      refine va_put (D := D) (ci := 1) (v := .int (nI 2)) (ty := .int) (C := RX1) (T := TX1) (N := 16) hx hb hts hin tyX1 tyX1_ok nmX1 hown hK hP hD hS 0 rfl rfl 15 (by decide) f27 (fun _ h9 => h9) rfl (by decide +kernel) rfl rfl (Nat.le_of_ble_eq_true rfl) dX1_draw_44 (fun H locs hP hD hS => ?_)
      have hP : va_P D vwCl (wM g0 g1 g2 g3 g4 cI cJ d r gb w rm lc k dr pn pa pi 2 ga e2 b rt) H := hP
      have hD : va_D A (wM g0 g1 g2 g3 g4 cI cJ d r gb w rm lc k dr pn pa pi 2 ga e2 b rt) := hD
      refine lv_aload_n hx hb dX1_draw_47 rfl (lv_at hl 0 rfl) ?_
      refine va_get (D := D) (ci := 1) (v := .int (nI 2)) (C := RX1) (T := TX1) (N := 16) hx hb hts hin hown hK hP 0 rfl rfl 15 (by decide) f27 (fun _ h9 => h9) rfl dX1_draw_48 ?_
      refine nk_if_le (tgt := 56) hx hb (by omega) dX1_draw_51 (by decide) (fun c51 => ?_) (fun c51 => ?_)
      · exfalso; omega
      · refine lv_iconst (v := nI 0) hx hb dX1_draw_54 (by decide +kernel) ?_
        exact W.iret (v := (nI 0)) hx hb hr (fun t ht hW => ⟨⟨(nI 0), wM g0 g1 g2 g3 g4 cI cJ d r gb w rm lc k dr pn pa pi 2 ga e2 b rt, rfl, Or.inr (Or.inl ⟨by omega, by omega, rfl⟩), by rw [ht]; exact hP, va_K.moved hW.alike hK, hD⟩, hS.F ht⟩) hS.2.2 dX1_draw_55
    · refine lv_iload_n hx hb dX1_draw_22 rfl (lv_at hl 1 rfl) ?_
      refine lv_aload_n hx hb dX1_draw_23 rfl (lv_at hl 0 rfl) ?_
      refine va_get (D := D) (ci := 1) (v := .int (nI rm)) (C := RX1) (T := TX1) (N := 16) hx hb hts hin hown hK hP 0 rfl rfl 4 (by decide) f72 (fun _ h9 => h9) rfl dX1_draw_24 ?_
      refine nk_icmp_gt (tgt := 39) hx hb (by omega) (by omega) dX1_draw_27 (by decide) (fun c27 => ?_) (fun c27 => ?_)
      · refine lv_iconst (v := nI 2) hx hb dX1_draw_39 (by decide +kernel) ?_
        refine lv_goto (tgt := 44) hx hb dX1_draw_40 (by decide) ?_
        refine va_put (D := D) (ci := 1) (v := .int (nI 2)) (ty := .int) (C := RX1) (T := TX1) (N := 16) hx hb hts hin tyX1 tyX1_ok nmX1 hown hK hP hD hS 0 rfl rfl 15 (by decide) f27 (fun _ h9 => h9) rfl (by decide +kernel) rfl rfl (Nat.le_of_ble_eq_true rfl) dX1_draw_44 (fun H locs hP hD hS => ?_)
        have hP : va_P D vwCl (wM g0 g1 g2 g3 g4 cI cJ d r gb w rm lc k dr pn pa pi 2 ga e2 b rt) H := hP
        have hD : va_D A (wM g0 g1 g2 g3 g4 cI cJ d r gb w rm lc k dr pn pa pi 2 ga e2 b rt) := hD
        refine lv_aload_n hx hb dX1_draw_47 rfl (lv_at hl 0 rfl) ?_
        refine va_get (D := D) (ci := 1) (v := .int (nI 2)) (C := RX1) (T := TX1) (N := 16) hx hb hts hin hown hK hP 0 rfl rfl 15 (by decide) f27 (fun _ h9 => h9) rfl dX1_draw_48 ?_
        refine nk_if_le (tgt := 56) hx hb (by omega) dX1_draw_51 (by decide) (fun c51 => ?_) (fun c51 => ?_)
        · exfalso; omega
        · refine lv_iconst (v := nI 0) hx hb dX1_draw_54 (by decide +kernel) ?_
          exact W.iret (v := (nI 0)) hx hb hr (fun t ht hW => ⟨⟨(nI 0), wM g0 g1 g2 g3 g4 cI cJ d r gb w rm lc k dr pn pa pi 2 ga e2 b rt, rfl, Or.inr (Or.inl ⟨by omega, by omega, rfl⟩), by rw [ht]; exact hP, va_K.moved hW.alike hK, hD⟩, hS.F ht⟩) hS.2.2 dX1_draw_55
      · refine lv_aload_n hx hb dX1_draw_30 rfl (lv_at hl 0 rfl) ?_
        refine va_get (D := D) (ci := 1) (v := .int (nI k)) (C := RX1) (T := TX1) (N := 16) hx hb hts hin hown hK hP 0 rfl rfl 8 (by decide) f48 (fun _ h9 => h9) rfl dX1_draw_31 ?_
        refine lv_bipush (v := nI 20) hx hb dX1_draw_34 (by decide +kernel) ?_
        refine nk_icmp_ne (tgt := 43) hx hb (by omega) (by omega) dX1_draw_36 (by decide) (fun c36 => ?_) (fun c36 => ?_)
        · refine lv_iconst (v := nI 0) hx hb dX1_draw_43 (by decide +kernel) ?_
          refine va_put (D := D) (ci := 1) (v := .int (nI 0)) (ty := .int) (C := RX1) (T := TX1) (N := 16) hx hb hts hin tyX1 tyX1_ok nmX1 hown hK hP hD hS 0 rfl rfl 15 (by decide) f27 (fun _ h9 => h9) rfl (by decide +kernel) rfl rfl (Nat.le_of_ble_eq_true rfl) dX1_draw_44 (fun H locs hP hD hS => ?_)
          have hP : va_P D vwCl (wM g0 g1 g2 g3 g4 cI cJ d r gb w rm lc k dr pn pa pi 0 ga e2 b rt) H := hP
          have hD : va_D A (wM g0 g1 g2 g3 g4 cI cJ d r gb w rm lc k dr pn pa pi 0 ga e2 b rt) := hD
          refine lv_aload_n hx hb dX1_draw_47 rfl (lv_at hl 0 rfl) ?_
          refine va_get (D := D) (ci := 1) (v := .int (nI 0)) (C := RX1) (T := TX1) (N := 16) hx hb hts hin hown hK hP 0 rfl rfl 15 (by decide) f27 (fun _ h9 => h9) rfl dX1_draw_48 ?_
          refine nk_if_le (tgt := 56) hx hb (by omega) dX1_draw_51 (by decide) (fun c51 => ?_) (fun c51 => ?_)
          · refine lv_aload_n hx hb dX1_draw_56 rfl (lv_at hl 0 rfl) ?_
            refine lv_iload_n hx hb dX1_draw_57 rfl (lv_at hl 1 rfl) ?_
            refine nk_vcall (wr := []) (va_runV (As := [.int (nI a9)]) (rest := []) ⟨hx, hb, hml, hown, hts⟩ (c_X1_draws l D g0 g1 g2 g3 g4 cI cJ d r gb w rm lc k dr pn pa pi 0 ga e2 b rt H.size a9 (by omega) (by omega)) (cwV 1 hts gX1_draw_X1_draws rfl rfl rfl (by decide +kernel) ⟨Nat.le_of_ble_eq_true rfl, Nat.le_of_ble_eq_true rfl⟩) ⟨nk_Pw.blind, va_recv hK hP (ci := 1) (q0 := 0) rfl rfl, fun U hU hW => ⟨rfl, by rw [hU], by rw [hU]; exact hP, va_K.moved hW.alike hK, hD.weaken (fun _ _ _ _ => trivial)⟩⟩ rfl rfl hl.1 rfl (lv_room (Nat.le_of_ble_eq_true rfl)) dX1_draw_58 ⟨Nat.zero_le _, Nat.zero_le _⟩) hP hD hS hA [0, 1, 2, 3, 4] [] rfl rfl rfl (by decide) (fun w1 H locs hw hP hD hS hk9 => ?_)
            subst hw
            have hP : va_P D vwCl (wM g0 g1 g2 g3 g4 cI cJ d r gb w rm lc (k + 1) (dr + a9) pn pa pi 0 ga e2 (va_up b k (a9 * 10000)) (va_up rt k r)) H := hP
            have hD : va_D A (wM g0 g1 g2 g3 g4 cI cJ d r gb w rm lc (k + 1) (dr + a9) pn pa pi 0 ga e2 (va_up b k (a9 * 10000)) (va_up rt k r)) := hD
            refine lv_aload_n hx hb dX1_draw_61 rfl (lv_at hl 0 rfl) ?_
            refine lv_dup hx hb dX1_draw_62 rfl ?_
            refine va_get (D := D) (ci := 1) (v := .int (nI rm)) (C := RX1) (T := TX1) (N := 16) hx hb hts hin hown hK hP 0 rfl rfl 4 (by decide) f72 (fun _ h9 => h9) rfl dX1_draw_63 ?_
            refine lv_iload_n hx hb dX1_draw_66 rfl (lv_at hl 1 rfl) ?_
            refine nk_isub hx hb (by omega) dX1_draw_67 ?_
            refine va_put (D := D) (ci := 1) (v := .int (nI (rm - a9))) (ty := .int) (C := RX1) (T := TX1) (N := 16) hx hb hts hin tyX1 tyX1_ok nmX1 hown hK hP hD hS 0 rfl rfl 4 (by decide) f72 (fun _ h9 => h9) rfl (by decide +kernel) rfl rfl (Nat.le_of_ble_eq_true rfl) dX1_draw_68 (fun H locs hP hD hS => ?_)
            have hP : va_P D vwCl (wM g0 g1 g2 g3 g4 cI cJ d r gb w (rm - a9) lc (k + 1) (dr + a9) pn pa pi 0 ga e2 (va_up b k (a9 * 10000)) (va_up rt k r)) H := hP
            have hD : va_D A (wM g0 g1 g2 g3 g4 cI cJ d r gb w (rm - a9) lc (k + 1) (dr + a9) pn pa pi 0 ga e2 (va_up b k (a9 * 10000)) (va_up rt k r)) := hD
            refine lv_aload_n hx hb dX1_draw_71 rfl (lv_at hl 0 rfl) ?_
            refine va_get (D := D) (ci := 1) (v := .int (nI (rm - a9))) (C := RX1) (T := TX1) (N := 16) hx hb hts hin hown hK hP 0 rfl rfl 4 (by decide) f72 (fun _ h9 => h9) rfl dX1_draw_72 ?_
            exact W.iret (v := (nI (rm - a9))) hx hb hr (fun t ht hW => ⟨⟨(nI (rm - a9)), wM g0 g1 g2 g3 g4 cI cJ d r gb w (rm - a9) lc (k + 1) (dr + a9) pn pa pi 0 ga e2 (va_up b k (a9 * 10000)) (va_up rt k r), rfl, Or.inr (Or.inr ⟨by omega, ⟨c19, by omega, by omega⟩, rfl, rfl⟩), by rw [ht]; exact hP, va_K.moved hW.alike hK, hD⟩, hS.F ht⟩) hS.2.2 dX1_draw_75
          · exfalso; omega
        · refine lv_iconst (v := nI 2) hx hb dX1_draw_39 (by decide +kernel) ?_
          refine lv_goto (tgt := 44) hx hb dX1_draw_40 (by decide) ?_
          refine va_put (D := D) (ci := 1) (v := .int (nI 2)) (ty := .int) (C := RX1) (T := TX1) (N := 16) hx hb hts hin tyX1 tyX1_ok nmX1 hown hK hP hD hS 0 rfl rfl 15 (by decide) f27 (fun _ h9 => h9) rfl (by decide +kernel) rfl rfl (Nat.le_of_ble_eq_true rfl) dX1_draw_44 (fun H locs hP hD hS => ?_)
          have hP : va_P D vwCl (wM g0 g1 g2 g3 g4 cI cJ d r gb w rm lc k dr pn pa pi 2 ga e2 b rt) H := hP
          have hD : va_D A (wM g0 g1 g2 g3 g4 cI cJ d r gb w rm lc k dr pn pa pi 2 ga e2 b rt) := hD
          refine lv_aload_n hx hb dX1_draw_47 rfl (lv_at hl 0 rfl) ?_
          refine va_get (D := D) (ci := 1) (v := .int (nI 2)) (C := RX1) (T := TX1) (N := 16) hx hb hts hin hown hK hP 0 rfl rfl 15 (by decide) f27 (fun _ h9 => h9) rfl dX1_draw_48 ?_
          refine nk_if_le (tgt := 56) hx hb (by omega) dX1_draw_51 (by decide) (fun c51 => ?_) (fun c51 => ?_)
          · exfalso; omega
          · refine lv_iconst (v := nI 0) hx hb dX1_draw_54 (by decide +kernel) ?_
            exact W.iret (v := (nI 0)) hx hb hr (fun t ht hW => ⟨⟨(nI 0), wM g0 g1 g2 g3 g4 cI cJ d r gb w rm lc k dr pn pa pi 2 ga e2 b rt, rfl, Or.inr (Or.inl ⟨by omega, by omega, rfl⟩), by rw [ht]; exact hP, va_K.moved hW.alike hK, hD⟩, hS.F ht⟩) hS.2.2 dX1_draw_55
  · refine lv_iconst (v := nI 1) hx hb dX1_draw_11 (by decide +kernel) ?_
    refine lv_goto (tgt := 44) hx hb dX1_draw_12 (by decide) ?_
    refine va_put (D := D) (ci := 1) (v := .int (nI 1)) (ty := .int) (C := RX1) (T := TX1) (N := 16) hx hb hts hin tyX1 tyX1_ok nmX1 hown hK hP hD hS 0 rfl rfl 15 (by decide) f27 (fun _ h9 => h9) rfl (by decide +kernel) rfl rfl (Nat.le_of_ble_eq_true rfl) dX1_draw_44 (fun H locs hP hD hS => ?_)
    have hP : va_P D vwCl (wM g0 g1 g2 g3 g4 cI cJ d r gb w rm lc k dr pn pa pi 1 ga e2 b rt) H := hP
    have hD : va_D A (wM g0 g1 g2 g3 g4 cI cJ d r gb w rm lc k dr pn pa pi 1 ga e2 b rt) := hD
    refine lv_aload_n hx hb dX1_draw_47 rfl (lv_at hl 0 rfl) ?_
    refine va_get (D := D) (ci := 1) (v := .int (nI 1)) (C := RX1) (T := TX1) (N := 16) hx hb hts hin hown hK hP 0 rfl rfl 15 (by decide) f27 (fun _ h9 => h9) rfl dX1_draw_48 ?_
    refine nk_if_le (tgt := 56) hx hb (by omega) dX1_draw_51 (by decide) (fun c51 => ?_) (fun c51 => ?_)
    · exfalso; omega
    · refine lv_iconst (v := nI 0) hx hb dX1_draw_54 (by decide +kernel) ?_
      exact W.iret (v := (nI 0)) hx hb hr (fun t ht hW => ⟨⟨(nI 0), wM g0 g1 g2 g3 g4 cI cJ d r gb w rm lc k dr pn pa pi 1 ga e2 b rt, rfl, Or.inl ⟨by omega, rfl⟩, by rw [ht]; exact hP, va_K.moved hW.alike hK, hD⟩, hS.F ht⟩) hS.2.2 dX1_draw_55
set_option maxHeartbeats 4000000 in
set_option maxRecDepth 100000 in
theorem c_X1_pay (l : Launch) (D : va_G) (g0 g1 g2 g3 g4 : Nat) (cI cJ : ClassId) (d r gb w rm lc k dr pn pa pi th : Nat) (ga e2 b rt : Nat → Nat) (sz : Nat) (p0 : Int32) (z : Int) (a9 : Nat)  (hz : p0.toInt = z) (hpa : 0 ≤ z → p0 = nI a9 ∧ a9 < 2147483648) (hgb2 : gb ≤ 15001) (hlc : lc ≤ 2) (he2 : ∀ j, j < lc → e2 j ≤ 15001) (he2d : ∀ j, j < lc → e2 j ≤ d + 1) (hgb : gb ≤ d + 1) (hd : d ≤ 15000) (hpi : pi ≤ 15000) (hdr : dr ≤ 1000000000) (hpa1 : pa ≤ 1000000000) (hk : k ≤ 20) (hbs : sm b k < 4611686018427387904) (hb9 : ∀ j, j < k → b j < 4611686018427387904) (hpn : pn ≤ 40) : Met l yX1_pay wsX1_pay { frames := 3, cells := 0, slots := 0, locals := 66 } (nk_Pw D (wM g0 g1 g2 g3 g4 cI cJ d r gb w rm lc k dr pn pa pi th ga e2 b rt) (tX cI cJ) sz [.ref g0, .int p0]) (va_Qi (fun r9 w1 => (¬ (1 ≤ z ∧ z ≤ 10000000) ∧ w1 = wM g0 g1 g2 g3 g4 cI cJ d r gb w rm lc k dr pn pa pi 1 ga e2 b rt) ∨ ((1 ≤ z ∧ z ≤ 10000000) ∧ ¬ ((0 < gb ∧ 0 < alive e2 lc) ∧ (a9 ≤ ceilA (sm b k) ∧ pn < 40)) ∧ w1 = wM g0 g1 g2 g3 g4 cI cJ d r gb w rm lc k dr pn pa pi 2 ga e2 b rt) ∨ ((1 ≤ z ∧ z ≤ 10000000) ∧ ((0 < gb ∧ 0 < alive e2 lc) ∧ (a9 ≤ ceilA (sm b k) ∧ pn < 40)) ∧ r9 = nI (chg (mxE e2 lc) d ((d + 1 - gb) / 365) dr (if pi = (d + 1 - gb) / 365 then pa else 0) a9) ∧ w1 = wM g0 g1 g2 g3 g4 cI cJ d r gb w rm lc k dr (pn + 1) ((if pi = (d + 1 - gb) / 365 then pa else 0) + a9) ((d + 1 - gb) / 365) 0 ga e2 (tkB b (a9 * 10000) k) rt)) (fun w1 t => nk_At D (tX cI cJ) (va_A (wM g0 g1 g2 g3 g4 cI cJ d r gb w rm lc k dr pn pa pi th ga e2 b rt) sz) w1 t) (va_A (wM g0 g1 g2 g3 g4 cI cJ d r gb w rm lc k dr pn pa pi th ga e2 b rt) sz)) 0 0 (va_A (wM g0 g1 g2 g3 g4 cI cJ d r gb w rm lc k dr pn pa pi th ga e2 b rt) sz) := by
  refine Met.ofW (cc := cX1_pay) (maxL := 3) (ret := (some .int)) (by decide) rfl ?_
  intro p e s m args below meth c s₁ B hml hv
  obtain ⟨hargs, hsz, hP, hK, hD0⟩ := hv
  have hx := B.exec
  have hb := B.bytes
  have hr := B.returns
  have hts := atoms_spec (ws := wsX1_pay) B.pre
  have hown : s.vm.findClass RX1 = some m.cls := findClass_of_methodNamed B.named
  have hlocks := B.notSynchronized
  subst hsz
  have hin : ∀ w ∈ wsX10, w ∈ wsX1_pay := by decide +kernel
  have hD := hD0.self (sz := s.heap.size)
  generalize hAe : va_A (wM g0 g1 g2 g3 g4 cI cJ d r gb w rm lc k dr pn pa pi th ga e2 b rt) s.heap.size = A at hD ⊢
  have hA : ∀ q : Nat, s.heap.size ≤ q → A q := fun q h => by rw [← hAe]; exact Or.inr h
  have hS : va_S A s.heap s.heap [] := va_S.rf
  have k57 : (Cond.constant RX1 57 (nI 10000000)).before args s = true := by
    rw [show (nI 10000000 : Int32) = 10000000 from by decide +kernel]
    exact hts (.constant RX1 57 (10000000)) (by decide +kernel)
  have f27 := hts (.fieldLink RX1 27 "EquityReleaseModel" "thrown" "I") (by decide +kernel)
  have f108 := hts (.fieldLink RX1 108 "EquityReleaseModel" "times" "I") (by decide +kernel)
  have f85 := hts (.fieldLink RX1 85 "EquityReleaseModel" "paidIn" "I") (by decide +kernel)
  have f91 := hts (.fieldLink RX1 91 "EquityReleaseModel" "paid" "J") (by decide +kernel)
  have hl := lv_entry ([.ref g0, .int p0]) (n := 3) (Nat.le_of_ble_eq_true rfl)
  have hEe : entryFrame m args 3 = entryFrame m ([.ref g0, .int p0] : List Value).toArray 3 := by rw [hargs]
  rw [hEe, lg_entry_eq]
  generalize (lg_sl ([.ref g0, .int p0]) ++ List.replicate (3 - (lg_sl ([.ref g0, .int p0])).length) Slot.unset).toArray = ls at hl ⊢
  have hl : lv_has ls 3 [(0, .ref g0), (1, .int p0)] := hl
  refine lv_aload_n hx hb dX1_pay_0 rfl (lv_at hl 0 rfl) ?_
  refine lv_iload_n hx hb dX1_pay_1 rfl (lv_at hl 1 rfl) ?_
  refine lv_iconst (v := nI 1) hx hb dX1_pay_2 (by decide +kernel) ?_
  refine lv_ldc (v := nI 10000000) hx hb hown k57 dX1_pay_3 ?_
  refine nk_rd (W.runS (As := [.int p0, .int (nI 1), .int (nI 10000000)]) (rest := [.ref g0]) ⟨hx, hb, hml, hown, hts⟩ (c_X1_in l p0 (nI 1) (nI 10000000) z ((1 : Nat) : Int) ((10000000 : Nat) : Int) hz (nI_toInt (by omega)) (nI_toInt (by omega))) (va_cwS 3 hts gX1_pay_X1_in rfl rfl rfl (by decide +kernel) ⟨Nat.le_of_ble_eq_true rfl, Nat.le_of_ble_eq_true rfl⟩) ⟨nk_P0.blind, fun U hU hW => ⟨rfl, trivial⟩⟩ rfl rfl hl.1 rfl (lv_room (Nat.le_of_ble_eq_true rfl)) dX1_pay_5 ⟨Nat.zero_le _, Nat.zero_le _⟩) ?_
  refine W.eq (g2 := F0 m 8 ls [.int (nI (if ((1 : Nat) : Int) ≤ z ∧ z ≤ ((10000000 : Nat) : Int) then 1 else 0)), .ref g0]) rfl ?_
  refine nk_bif_ne (tgt := 15) hx hb dX1_pay_8 (by decide) (fun c8 => ?_) (fun c8 => ?_)
  · obtain ⟨rfl, ha9⟩ := hpa (by omega)
    have za : z = (a9 : Int) := by rw [← hz]; exact nI_toInt (by omega)
    refine lv_aload_n hx hb dX1_pay_15 rfl (lv_at hl 0 rfl) ?_
    refine nk_rd (W.runV (As := []) (rest := [.ref g0]) ⟨hx, hb, hml, hown, hts⟩ (c_X1_isOn l D g0 g1 g2 g3 g4 cI cJ d r gb w rm lc k dr pn pa pi th ga e2 b rt (by omega) hlc he2) (cwV 0 hts gX1_pay_X1_isOn rfl rfl rfl (by decide +kernel) ⟨Nat.le_of_ble_eq_true rfl, Nat.le_of_ble_eq_true rfl⟩) ⟨nk_Pr.blind, va_recv hK hP (ci := 1) (q0 := 0) rfl rfl, fun U hU hW => ⟨rfl, by rw [hU]; exact hP, va_K.moved hW.alike hK⟩⟩ rfl rfl hl.1 rfl (lv_room (Nat.le_of_ble_eq_true rfl)) dX1_pay_16 ⟨Nat.zero_le _, Nat.zero_le _⟩) ?_
    refine W.eq (g2 := F0 m 19 ls [.int (nI (if 0 < gb ∧ 0 < alive e2 lc then 1 else 0)), .ref g0]) rfl ?_
    refine nk_bif_eq (tgt := 44) hx hb dX1_pay_19 (by decide) (fun c19 => ?_) (fun c19 => ?_)
    · refine lv_iconst (v := nI 2) hx hb dX1_pay_44 (by decide +kernel) ?_
      refine lv_goto (tgt := 49) hx hb dX1_pay_45 (by decide) ?_
      refine va_put (D := D) (ci := 1) (v := .int (nI 2)) (ty := .int) (C := RX1) (T := TX1) (N := 16) hx hb hts hin tyX1 tyX1_ok nmX1 hown hK hP hD hS 0 rfl rfl 15 (by decide) f27 (fun _ h9 => h9) rfl (by decide +kernel) rfl rfl (Nat.le_of_ble_eq_true rfl) dX1_pay_49 (fun H locs hP hD hS => ?_)
      have hP : va_P D vwCl (wM g0 g1 g2 g3 g4 cI cJ d r gb w rm lc k dr pn pa pi 2 ga e2 b rt) H := hP
      have hD : va_D A (wM g0 g1 g2 g3 g4 cI cJ d r gb w rm lc k dr pn pa pi 2 ga e2 b rt) := hD
      refine lv_aload_n hx hb dX1_pay_52 rfl (lv_at hl 0 rfl) ?_
      refine va_get (D := D) (ci := 1) (v := .int (nI 2)) (C := RX1) (T := TX1) (N := 16) hx hb hts hin hown hK hP 0 rfl rfl 15 (by decide) f27 (fun _ h9 => h9) rfl dX1_pay_53 ?_
      refine nk_if_le (tgt := 61) hx hb (by omega) dX1_pay_56 (by decide) (fun c56 => ?_) (fun c56 => ?_)
      · exfalso; omega
      · refine lv_iconst (v := nI 0) hx hb dX1_pay_59 (by decide +kernel) ?_
        exact W.iret (v := (nI 0)) hx hb hr (fun t ht hW => ⟨⟨(nI 0), wM g0 g1 g2 g3 g4 cI cJ d r gb w rm lc k dr pn pa pi 2 ga e2 b rt, rfl, Or.inr (Or.inl ⟨by omega, by omega, rfl⟩), by rw [ht]; exact hP, va_K.moved hW.alike hK, hD⟩, hS.F ht⟩) hS.2.2 dX1_pay_60
    · refine lv_iload_n hx hb dX1_pay_22 rfl (lv_at hl 1 rfl) ?_
      refine nk_i2l hx hb (by omega) dX1_pay_23 ?_
      refine lv_aload_n hx hb dX1_pay_24 rfl (lv_at hl 0 rfl) ?_
      refine nk_rd (W.runV (As := []) (rest := [.long (lN a9), .ref g0]) ⟨hx, hb, hml, hown, hts⟩ (c_X1_all l D g0 g1 g2 g3 g4 cI cJ d r gb w rm lc k dr pn pa pi th ga e2 b rt hk) (cwV 0 hts gX1_pay_X1_all rfl rfl rfl (by decide +kernel) ⟨Nat.le_of_ble_eq_true rfl, Nat.le_of_ble_eq_true rfl⟩) ⟨nk_Pr.blind, va_recv hK hP (ci := 1) (q0 := 0) rfl rfl, fun U hU hW => ⟨rfl, by rw [hU]; exact hP, va_K.moved hW.alike hK⟩⟩ rfl rfl hl.1 rfl (lv_room (Nat.le_of_ble_eq_true rfl)) dX1_pay_25 ⟨Nat.zero_le _, Nat.zero_le _⟩) ?_
      refine W.eq (g2 := F0 m 28 ls [.long (lN (sm b k)), .long (lN a9), .ref g0]) rfl ?_
      refine nk_rd (W.runS (As := [.long (lN (sm b k))]) (rest := [.long (lN a9), .ref g0]) ⟨hx, hb, hml, hown, hts⟩ (c_X1_up l (sm b k) (by omega)) (va_cwS 1 hts gX1_pay_X1_up rfl rfl rfl (by decide +kernel) ⟨Nat.le_of_ble_eq_true rfl, Nat.le_of_ble_eq_true rfl⟩) ⟨nk_P0.blind, fun U hU hW => ⟨rfl, trivial⟩⟩ rfl rfl hl.1 rfl (lv_room (Nat.le_of_ble_eq_true rfl)) dX1_pay_28 ⟨Nat.zero_le _, Nat.zero_le _⟩) ?_
      refine W.eq (g2 := F0 m 31 ls [.long (lN (ceilA (sm b k))), .long (lN a9), .ref g0]) rfl ?_
      have hc9 : ceilA (sm b k) < 4611686018427387904 := by unfold ceilA; omega
      refine nk_lcmp_gt (tgt := 44) hx hb (by omega) (by omega) dX1_pay_31 dX1_pay_32 (by decide) (fun c31 => ?_) (fun c31 => ?_)
      · refine lv_iconst (v := nI 2) hx hb dX1_pay_44 (by decide +kernel) ?_
        refine lv_goto (tgt := 49) hx hb dX1_pay_45 (by decide) ?_
        refine va_put (D := D) (ci := 1) (v := .int (nI 2)) (ty := .int) (C := RX1) (T := TX1) (N := 16) hx hb hts hin tyX1 tyX1_ok nmX1 hown hK hP hD hS 0 rfl rfl 15 (by decide) f27 (fun _ h9 => h9) rfl (by decide +kernel) rfl rfl (Nat.le_of_ble_eq_true rfl) dX1_pay_49 (fun H locs hP hD hS => ?_)
        have hP : va_P D vwCl (wM g0 g1 g2 g3 g4 cI cJ d r gb w rm lc k dr pn pa pi 2 ga e2 b rt) H := hP
        have hD : va_D A (wM g0 g1 g2 g3 g4 cI cJ d r gb w rm lc k dr pn pa pi 2 ga e2 b rt) := hD
        refine lv_aload_n hx hb dX1_pay_52 rfl (lv_at hl 0 rfl) ?_
        refine va_get (D := D) (ci := 1) (v := .int (nI 2)) (C := RX1) (T := TX1) (N := 16) hx hb hts hin hown hK hP 0 rfl rfl 15 (by decide) f27 (fun _ h9 => h9) rfl dX1_pay_53 ?_
        refine nk_if_le (tgt := 61) hx hb (by omega) dX1_pay_56 (by decide) (fun c56 => ?_) (fun c56 => ?_)
        · exfalso; omega
        · refine lv_iconst (v := nI 0) hx hb dX1_pay_59 (by decide +kernel) ?_
          exact W.iret (v := (nI 0)) hx hb hr (fun t ht hW => ⟨⟨(nI 0), wM g0 g1 g2 g3 g4 cI cJ d r gb w rm lc k dr pn pa pi 2 ga e2 b rt, rfl, Or.inr (Or.inl ⟨by omega, by omega, rfl⟩), by rw [ht]; exact hP, va_K.moved hW.alike hK, hD⟩, hS.F ht⟩) hS.2.2 dX1_pay_60
      · refine lv_aload_n hx hb dX1_pay_35 rfl (lv_at hl 0 rfl) ?_
        refine va_get (D := D) (ci := 1) (v := .int (nI pn)) (C := RX1) (T := TX1) (N := 16) hx hb hts hin hown hK hP 0 rfl rfl 12 (by decide) f108 (fun _ h9 => h9) rfl dX1_pay_36 ?_
        refine lv_bipush (v := nI 40) hx hb dX1_pay_39 (by decide +kernel) ?_
        refine nk_icmp_ne (tgt := 48) hx hb (by omega) (by omega) dX1_pay_41 (by decide) (fun c41 => ?_) (fun c41 => ?_)
        · refine lv_iconst (v := nI 0) hx hb dX1_pay_48 (by decide +kernel) ?_
          refine va_put (D := D) (ci := 1) (v := .int (nI 0)) (ty := .int) (C := RX1) (T := TX1) (N := 16) hx hb hts hin tyX1 tyX1_ok nmX1 hown hK hP hD hS 0 rfl rfl 15 (by decide) f27 (fun _ h9 => h9) rfl (by decide +kernel) rfl rfl (Nat.le_of_ble_eq_true rfl) dX1_pay_49 (fun H locs hP hD hS => ?_)
          have hP : va_P D vwCl (wM g0 g1 g2 g3 g4 cI cJ d r gb w rm lc k dr pn pa pi 0 ga e2 b rt) H := hP
          have hD : va_D A (wM g0 g1 g2 g3 g4 cI cJ d r gb w rm lc k dr pn pa pi 0 ga e2 b rt) := hD
          refine lv_aload_n hx hb dX1_pay_52 rfl (lv_at hl 0 rfl) ?_
          refine va_get (D := D) (ci := 1) (v := .int (nI 0)) (C := RX1) (T := TX1) (N := 16) hx hb hts hin hown hK hP 0 rfl rfl 15 (by decide) f27 (fun _ h9 => h9) rfl dX1_pay_53 ?_
          refine nk_if_le (tgt := 61) hx hb (by omega) dX1_pay_56 (by decide) (fun c56 => ?_) (fun c56 => ?_)
          · refine lv_aload_n hx hb dX1_pay_61 rfl (lv_at hl 0 rfl) ?_
            refine lv_iload_n hx hb dX1_pay_62 rfl (lv_at hl 1 rfl) ?_
            refine nk_rd (W.runV (As := [.int (nI a9)]) (rest := []) ⟨hx, hb, hml, hown, hts⟩ (c_X1_chargeFor l D g0 g1 g2 g3 g4 cI cJ d r gb w rm lc k dr pn pa pi 0 ga e2 b rt a9 (by omega) hlc he2 he2d hgb hd hpi hdr hpa1) (cwV 1 hts gX1_pay_X1_chargeFor rfl rfl rfl (by decide +kernel) ⟨Nat.le_of_ble_eq_true rfl, Nat.le_of_ble_eq_true rfl⟩) ⟨nk_Pr.blind, va_recv hK hP (ci := 1) (q0 := 0) rfl rfl, fun U hU hW => ⟨rfl, by rw [hU]; exact hP, va_K.moved hW.alike hK⟩⟩ rfl rfl hl.1 rfl (lv_room (Nat.le_of_ble_eq_true rfl)) dX1_pay_63 ⟨Nat.zero_le _, Nat.zero_le _⟩) ?_
            refine W.eq (g2 := F0 m 66 ls [.int (nI (chg (mxE e2 lc) d ((d + 1 - gb) / 365) dr (if pi = (d + 1 - gb) / 365 then pa else 0) a9))]) rfl ?_
            refine lv_istore_n (lv' := [(2, .int (nI (chg (mxE e2 lc) d ((d + 1 - gb) / 365) dr (if pi = (d + 1 - gb) / 365 then pa else 0) a9))), (0, .ref g0), (1, .int (nI a9))]) hx hb dX1_pay_66 rfl hl (by decide) rfl (fun ls hl => ?_)
            refine lv_aload_n hx hb dX1_pay_67 rfl (lv_at hl 1 rfl) ?_
            refine lv_aload_n hx hb dX1_pay_68 rfl (lv_at hl 1 rfl) ?_
            refine va_get (D := D) (ci := 1) (v := .int (nI pi)) (C := RX1) (T := TX1) (N := 16) hx hb hts hin hown hK hP 0 rfl rfl 14 (by decide) f85 (fun _ h9 => h9) rfl dX1_pay_69 ?_
            refine lv_aload_n hx hb dX1_pay_72 rfl (lv_at hl 1 rfl) ?_
            refine nk_rd (W.runV (As := []) (rest := [.int (nI pi), .ref g0]) ⟨hx, hb, hml, hown, hts⟩ (c_X1_year l D g0 g1 g2 g3 g4 cI cJ d r gb w rm lc k dr pn pa pi 0 ga e2 b rt hgb hd) (cwV 0 hts gX1_pay_X1_year rfl rfl rfl (by decide +kernel) ⟨Nat.le_of_ble_eq_true rfl, Nat.le_of_ble_eq_true rfl⟩) ⟨nk_Pr.blind, va_recv hK hP (ci := 1) (q0 := 0) rfl rfl, fun U hU hW => ⟨rfl, by rw [hU]; exact hP, va_K.moved hW.alike hK⟩⟩ rfl rfl hl.1 rfl (lv_room (Nat.le_of_ble_eq_true rfl)) dX1_pay_73 ⟨Nat.zero_le _, Nat.zero_le _⟩) ?_
            refine W.eq (g2 := F0 m 76 ls [.int (nI ((d + 1 - gb) / 365)), .int (nI pi), .ref g0]) rfl ?_
            refine nk_icmp_ne (tgt := 86) hx hb (by omega) (by omega) dX1_pay_76 (by decide) (fun c76 => ?_) (fun c76 => ?_)
            · refine lv_lconst (v := lN 0) hx hb dX1_pay_86 (by decide +kernel) ?_
              refine lv_iload_n hx hb dX1_pay_87 rfl (lv_at hl 2 rfl) ?_
              refine nk_i2l hx hb (by omega) dX1_pay_88 ?_
              refine nk_ladd hx hb dX1_pay_89 ?_
              refine nk_topl (y := (lN ((if pi = (d + 1 - gb) / 365 then pa else 0) + a9))) (by rw [if_neg c76]) ?_
              refine va_put (D := D) (ci := 1) (v := .long (lN ((if pi = (d + 1 - gb) / 365 then pa else 0) + a9))) (ty := .long) (C := RX1) (T := TX1) (N := 16) hx hb hts hin tyX1 tyX1_ok nmX1 hown hK hP hD hS 0 rfl rfl 13 (by decide) f91 (fun _ h9 => h9) rfl (by decide +kernel) rfl rfl (Nat.le_of_ble_eq_true rfl) dX1_pay_90 (fun H locs hP hD hS => ?_)
              have hP : va_P D vwCl (wM g0 g1 g2 g3 g4 cI cJ d r gb w rm lc k dr pn ((if pi = (d + 1 - gb) / 365 then pa else 0) + a9) pi 0 ga e2 b rt) H := hP
              have hD : va_D A (wM g0 g1 g2 g3 g4 cI cJ d r gb w rm lc k dr pn ((if pi = (d + 1 - gb) / 365 then pa else 0) + a9) pi 0 ga e2 b rt) := hD
              refine lv_aload_n hx hb dX1_pay_93 rfl (lv_at hl 1 rfl) ?_
              refine lv_aload_n hx hb dX1_pay_94 rfl (lv_at hl 1 rfl) ?_
              refine nk_rd (W.runV (As := []) (rest := [.ref g0]) ⟨hx, hb, hml, hown, hts⟩ (c_X1_year l D g0 g1 g2 g3 g4 cI cJ d r gb w rm lc k dr pn ((if pi = (d + 1 - gb) / 365 then pa else 0) + a9) pi 0 ga e2 b rt hgb hd) (cwV 0 hts gX1_pay_X1_year rfl rfl rfl (by decide +kernel) ⟨Nat.le_of_ble_eq_true rfl, Nat.le_of_ble_eq_true rfl⟩) ⟨nk_Pr.blind, va_recv hK hP (ci := 1) (q0 := 0) rfl rfl, fun U hU hW => ⟨rfl, by rw [hU]; exact hP, va_K.moved hW.alike hK⟩⟩ rfl rfl hl.1 rfl (lv_room (Nat.le_of_ble_eq_true rfl)) dX1_pay_95 ⟨Nat.zero_le _, Nat.zero_le _⟩) ?_
              refine W.eq (g2 := F0 m 98 ls [.int (nI ((d + 1 - gb) / 365)), .ref g0]) rfl ?_
              refine va_put (D := D) (ci := 1) (v := .int (nI ((d + 1 - gb) / 365))) (ty := .int) (C := RX1) (T := TX1) (N := 16) hx hb hts hin tyX1 tyX1_ok nmX1 hown hK hP hD hS 0 rfl rfl 14 (by decide) f85 (fun _ h9 => h9) rfl (by decide +kernel) rfl rfl (Nat.le_of_ble_eq_true rfl) dX1_pay_98 (fun H locs hP hD hS => ?_)
              have hP : va_P D vwCl (wM g0 g1 g2 g3 g4 cI cJ d r gb w rm lc k dr pn ((if pi = (d + 1 - gb) / 365 then pa else 0) + a9) ((d + 1 - gb) / 365) 0 ga e2 b rt) H := hP
              have hD : va_D A (wM g0 g1 g2 g3 g4 cI cJ d r gb w rm lc k dr pn ((if pi = (d + 1 - gb) / 365 then pa else 0) + a9) ((d + 1 - gb) / 365) 0 ga e2 b rt) := hD
              refine lv_aload_n hx hb dX1_pay_101 rfl (lv_at hl 1 rfl) ?_
              refine lv_dup hx hb dX1_pay_102 rfl ?_
              refine va_get (D := D) (ci := 1) (v := .int (nI pn)) (C := RX1) (T := TX1) (N := 16) hx hb hts hin hown hK hP 0 rfl rfl 12 (by decide) f108 (fun _ h9 => h9) rfl dX1_pay_103 ?_
              refine lv_iconst (v := nI 1) hx hb dX1_pay_106 (by decide +kernel) ?_
              refine nk_iadd hx hb dX1_pay_107 ?_
              refine va_put (D := D) (ci := 1) (v := .int (nI (pn + 1))) (ty := .int) (C := RX1) (T := TX1) (N := 16) hx hb hts hin tyX1 tyX1_ok nmX1 hown hK hP hD hS 0 rfl rfl 12 (by decide) f108 (fun _ h9 => h9) rfl (by decide +kernel) rfl rfl (Nat.le_of_ble_eq_true rfl) dX1_pay_108 (fun H locs hP hD hS => ?_)
              have hP : va_P D vwCl (wM g0 g1 g2 g3 g4 cI cJ d r gb w rm lc k dr (pn + 1) ((if pi = (d + 1 - gb) / 365 then pa else 0) + a9) ((d + 1 - gb) / 365) 0 ga e2 b rt) H := hP
              have hD : va_D A (wM g0 g1 g2 g3 g4 cI cJ d r gb w rm lc k dr (pn + 1) ((if pi = (d + 1 - gb) / 365 then pa else 0) + a9) ((d + 1 - gb) / 365) 0 ga e2 b rt) := hD
              refine lv_aload_n hx hb dX1_pay_111 rfl (lv_at hl 1 rfl) ?_
              refine lv_iload_n hx hb dX1_pay_112 rfl (lv_at hl 2 rfl) ?_
              refine nk_i2l hx hb (by omega) dX1_pay_113 ?_
              refine nk_vcall (wr := []) (va_runV (As := [.long (lN a9)]) (rest := []) ⟨hx, hb, hml, hown, hts⟩ (c_X1_takes l D g0 g1 g2 g3 g4 cI cJ d r gb w rm lc k dr (pn + 1) ((if pi = (d + 1 - gb) / 365 then pa else 0) + a9) ((d + 1 - gb) / 365) 0 ga e2 b rt H.size a9 hk (by omega) hb9) (cwV 1 hts gX1_pay_X1_takes rfl rfl rfl (by decide +kernel) ⟨Nat.le_of_ble_eq_true rfl, Nat.le_of_ble_eq_true rfl⟩) ⟨nk_Pw.blind, va_recv hK hP (ci := 1) (q0 := 0) rfl rfl, fun U hU hW => ⟨rfl, by rw [hU], by rw [hU]; exact hP, va_K.moved hW.alike hK, hD.weaken (fun _ _ _ _ => trivial)⟩⟩ rfl rfl hl.1 rfl (lv_room (Nat.le_of_ble_eq_true rfl)) dX1_pay_114 ⟨Nat.zero_le _, Nat.zero_le _⟩) hP hD hS hA [0, 1, 2, 3, 4] [] rfl rfl rfl (by decide) (fun w1 H locs hw hP hD hS hk9 => ?_)
              subst hw
              have hP : va_P D vwCl (wM g0 g1 g2 g3 g4 cI cJ d r gb w rm lc k dr (pn + 1) ((if pi = (d + 1 - gb) / 365 then pa else 0) + a9) ((d + 1 - gb) / 365) 0 ga e2 (tkB b (a9 * 10000) k) rt) H := hP
              have hD : va_D A (wM g0 g1 g2 g3 g4 cI cJ d r gb w rm lc k dr (pn + 1) ((if pi = (d + 1 - gb) / 365 then pa else 0) + a9) ((d + 1 - gb) / 365) 0 ga e2 (tkB b (a9 * 10000) k) rt) := hD
              refine lv_iload_n hx hb dX1_pay_117 rfl (lv_at hl 0 rfl) ?_
              exact W.iret (v := (nI (chg (mxE e2 lc) d ((d + 1 - gb) / 365) dr (if pi = (d + 1 - gb) / 365 then pa else 0) a9))) hx hb hr (fun t ht hW => ⟨⟨(nI (chg (mxE e2 lc) d ((d + 1 - gb) / 365) dr (if pi = (d + 1 - gb) / 365 then pa else 0) a9)), wM g0 g1 g2 g3 g4 cI cJ d r gb w rm lc k dr (pn + 1) ((if pi = (d + 1 - gb) / 365 then pa else 0) + a9) ((d + 1 - gb) / 365) 0 ga e2 (tkB b (a9 * 10000) k) rt, rfl, Or.inr (Or.inr ⟨by omega, ⟨c19, by omega, by omega⟩, rfl, rfl⟩), by rw [ht]; exact hP, va_K.moved hW.alike hK, hD⟩, hS.F ht⟩) hS.2.2 dX1_pay_118
            · refine lv_aload_n hx hb dX1_pay_79 rfl (lv_at hl 1 rfl) ?_
              refine va_get (D := D) (ci := 1) (v := .long (lN pa)) (C := RX1) (T := TX1) (N := 16) hx hb hts hin hown hK hP 0 rfl rfl 13 (by decide) f91 (fun _ h9 => h9) rfl dX1_pay_80 ?_
              refine lv_goto (tgt := 87) hx hb dX1_pay_83 (by decide) ?_
              refine lv_iload_n hx hb dX1_pay_87 rfl (lv_at hl 2 rfl) ?_
              refine nk_i2l hx hb (by omega) dX1_pay_88 ?_
              refine nk_ladd hx hb dX1_pay_89 ?_
              refine nk_topl (y := (lN ((if pi = (d + 1 - gb) / 365 then pa else 0) + a9))) (by rw [if_pos c76]) ?_
              refine va_put (D := D) (ci := 1) (v := .long (lN ((if pi = (d + 1 - gb) / 365 then pa else 0) + a9))) (ty := .long) (C := RX1) (T := TX1) (N := 16) hx hb hts hin tyX1 tyX1_ok nmX1 hown hK hP hD hS 0 rfl rfl 13 (by decide) f91 (fun _ h9 => h9) rfl (by decide +kernel) rfl rfl (Nat.le_of_ble_eq_true rfl) dX1_pay_90 (fun H locs hP hD hS => ?_)
              have hP : va_P D vwCl (wM g0 g1 g2 g3 g4 cI cJ d r gb w rm lc k dr pn ((if pi = (d + 1 - gb) / 365 then pa else 0) + a9) pi 0 ga e2 b rt) H := hP
              have hD : va_D A (wM g0 g1 g2 g3 g4 cI cJ d r gb w rm lc k dr pn ((if pi = (d + 1 - gb) / 365 then pa else 0) + a9) pi 0 ga e2 b rt) := hD
              refine lv_aload_n hx hb dX1_pay_93 rfl (lv_at hl 1 rfl) ?_
              refine lv_aload_n hx hb dX1_pay_94 rfl (lv_at hl 1 rfl) ?_
              refine nk_rd (W.runV (As := []) (rest := [.ref g0]) ⟨hx, hb, hml, hown, hts⟩ (c_X1_year l D g0 g1 g2 g3 g4 cI cJ d r gb w rm lc k dr pn ((if pi = (d + 1 - gb) / 365 then pa else 0) + a9) pi 0 ga e2 b rt hgb hd) (cwV 0 hts gX1_pay_X1_year rfl rfl rfl (by decide +kernel) ⟨Nat.le_of_ble_eq_true rfl, Nat.le_of_ble_eq_true rfl⟩) ⟨nk_Pr.blind, va_recv hK hP (ci := 1) (q0 := 0) rfl rfl, fun U hU hW => ⟨rfl, by rw [hU]; exact hP, va_K.moved hW.alike hK⟩⟩ rfl rfl hl.1 rfl (lv_room (Nat.le_of_ble_eq_true rfl)) dX1_pay_95 ⟨Nat.zero_le _, Nat.zero_le _⟩) ?_
              refine W.eq (g2 := F0 m 98 ls [.int (nI ((d + 1 - gb) / 365)), .ref g0]) rfl ?_
              refine va_put (D := D) (ci := 1) (v := .int (nI ((d + 1 - gb) / 365))) (ty := .int) (C := RX1) (T := TX1) (N := 16) hx hb hts hin tyX1 tyX1_ok nmX1 hown hK hP hD hS 0 rfl rfl 14 (by decide) f85 (fun _ h9 => h9) rfl (by decide +kernel) rfl rfl (Nat.le_of_ble_eq_true rfl) dX1_pay_98 (fun H locs hP hD hS => ?_)
              have hP : va_P D vwCl (wM g0 g1 g2 g3 g4 cI cJ d r gb w rm lc k dr pn ((if pi = (d + 1 - gb) / 365 then pa else 0) + a9) ((d + 1 - gb) / 365) 0 ga e2 b rt) H := hP
              have hD : va_D A (wM g0 g1 g2 g3 g4 cI cJ d r gb w rm lc k dr pn ((if pi = (d + 1 - gb) / 365 then pa else 0) + a9) ((d + 1 - gb) / 365) 0 ga e2 b rt) := hD
              refine lv_aload_n hx hb dX1_pay_101 rfl (lv_at hl 1 rfl) ?_
              refine lv_dup hx hb dX1_pay_102 rfl ?_
              refine va_get (D := D) (ci := 1) (v := .int (nI pn)) (C := RX1) (T := TX1) (N := 16) hx hb hts hin hown hK hP 0 rfl rfl 12 (by decide) f108 (fun _ h9 => h9) rfl dX1_pay_103 ?_
              refine lv_iconst (v := nI 1) hx hb dX1_pay_106 (by decide +kernel) ?_
              refine nk_iadd hx hb dX1_pay_107 ?_
              refine va_put (D := D) (ci := 1) (v := .int (nI (pn + 1))) (ty := .int) (C := RX1) (T := TX1) (N := 16) hx hb hts hin tyX1 tyX1_ok nmX1 hown hK hP hD hS 0 rfl rfl 12 (by decide) f108 (fun _ h9 => h9) rfl (by decide +kernel) rfl rfl (Nat.le_of_ble_eq_true rfl) dX1_pay_108 (fun H locs hP hD hS => ?_)
              have hP : va_P D vwCl (wM g0 g1 g2 g3 g4 cI cJ d r gb w rm lc k dr (pn + 1) ((if pi = (d + 1 - gb) / 365 then pa else 0) + a9) ((d + 1 - gb) / 365) 0 ga e2 b rt) H := hP
              have hD : va_D A (wM g0 g1 g2 g3 g4 cI cJ d r gb w rm lc k dr (pn + 1) ((if pi = (d + 1 - gb) / 365 then pa else 0) + a9) ((d + 1 - gb) / 365) 0 ga e2 b rt) := hD
              refine lv_aload_n hx hb dX1_pay_111 rfl (lv_at hl 1 rfl) ?_
              refine lv_iload_n hx hb dX1_pay_112 rfl (lv_at hl 2 rfl) ?_
              refine nk_i2l hx hb (by omega) dX1_pay_113 ?_
              refine nk_vcall (wr := []) (va_runV (As := [.long (lN a9)]) (rest := []) ⟨hx, hb, hml, hown, hts⟩ (c_X1_takes l D g0 g1 g2 g3 g4 cI cJ d r gb w rm lc k dr (pn + 1) ((if pi = (d + 1 - gb) / 365 then pa else 0) + a9) ((d + 1 - gb) / 365) 0 ga e2 b rt H.size a9 hk (by omega) hb9) (cwV 1 hts gX1_pay_X1_takes rfl rfl rfl (by decide +kernel) ⟨Nat.le_of_ble_eq_true rfl, Nat.le_of_ble_eq_true rfl⟩) ⟨nk_Pw.blind, va_recv hK hP (ci := 1) (q0 := 0) rfl rfl, fun U hU hW => ⟨rfl, by rw [hU], by rw [hU]; exact hP, va_K.moved hW.alike hK, hD.weaken (fun _ _ _ _ => trivial)⟩⟩ rfl rfl hl.1 rfl (lv_room (Nat.le_of_ble_eq_true rfl)) dX1_pay_114 ⟨Nat.zero_le _, Nat.zero_le _⟩) hP hD hS hA [0, 1, 2, 3, 4] [] rfl rfl rfl (by decide) (fun w1 H locs hw hP hD hS hk9 => ?_)
              subst hw
              have hP : va_P D vwCl (wM g0 g1 g2 g3 g4 cI cJ d r gb w rm lc k dr (pn + 1) ((if pi = (d + 1 - gb) / 365 then pa else 0) + a9) ((d + 1 - gb) / 365) 0 ga e2 (tkB b (a9 * 10000) k) rt) H := hP
              have hD : va_D A (wM g0 g1 g2 g3 g4 cI cJ d r gb w rm lc k dr (pn + 1) ((if pi = (d + 1 - gb) / 365 then pa else 0) + a9) ((d + 1 - gb) / 365) 0 ga e2 (tkB b (a9 * 10000) k) rt) := hD
              refine lv_iload_n hx hb dX1_pay_117 rfl (lv_at hl 0 rfl) ?_
              exact W.iret (v := (nI (chg (mxE e2 lc) d ((d + 1 - gb) / 365) dr (if pi = (d + 1 - gb) / 365 then pa else 0) a9))) hx hb hr (fun t ht hW => ⟨⟨(nI (chg (mxE e2 lc) d ((d + 1 - gb) / 365) dr (if pi = (d + 1 - gb) / 365 then pa else 0) a9)), wM g0 g1 g2 g3 g4 cI cJ d r gb w rm lc k dr (pn + 1) ((if pi = (d + 1 - gb) / 365 then pa else 0) + a9) ((d + 1 - gb) / 365) 0 ga e2 (tkB b (a9 * 10000) k) rt, rfl, Or.inr (Or.inr ⟨by omega, ⟨c19, by omega, by omega⟩, rfl, rfl⟩), by rw [ht]; exact hP, va_K.moved hW.alike hK, hD⟩, hS.F ht⟩) hS.2.2 dX1_pay_118
          · exfalso; omega
        · refine lv_iconst (v := nI 2) hx hb dX1_pay_44 (by decide +kernel) ?_
          refine lv_goto (tgt := 49) hx hb dX1_pay_45 (by decide) ?_
          refine va_put (D := D) (ci := 1) (v := .int (nI 2)) (ty := .int) (C := RX1) (T := TX1) (N := 16) hx hb hts hin tyX1 tyX1_ok nmX1 hown hK hP hD hS 0 rfl rfl 15 (by decide) f27 (fun _ h9 => h9) rfl (by decide +kernel) rfl rfl (Nat.le_of_ble_eq_true rfl) dX1_pay_49 (fun H locs hP hD hS => ?_)
          have hP : va_P D vwCl (wM g0 g1 g2 g3 g4 cI cJ d r gb w rm lc k dr pn pa pi 2 ga e2 b rt) H := hP
          have hD : va_D A (wM g0 g1 g2 g3 g4 cI cJ d r gb w rm lc k dr pn pa pi 2 ga e2 b rt) := hD
          refine lv_aload_n hx hb dX1_pay_52 rfl (lv_at hl 0 rfl) ?_
          refine va_get (D := D) (ci := 1) (v := .int (nI 2)) (C := RX1) (T := TX1) (N := 16) hx hb hts hin hown hK hP 0 rfl rfl 15 (by decide) f27 (fun _ h9 => h9) rfl dX1_pay_53 ?_
          refine nk_if_le (tgt := 61) hx hb (by omega) dX1_pay_56 (by decide) (fun c56 => ?_) (fun c56 => ?_)
          · exfalso; omega
          · refine lv_iconst (v := nI 0) hx hb dX1_pay_59 (by decide +kernel) ?_
            exact W.iret (v := (nI 0)) hx hb hr (fun t ht hW => ⟨⟨(nI 0), wM g0 g1 g2 g3 g4 cI cJ d r gb w rm lc k dr pn pa pi 2 ga e2 b rt, rfl, Or.inr (Or.inl ⟨by omega, by omega, rfl⟩), by rw [ht]; exact hP, va_K.moved hW.alike hK, hD⟩, hS.F ht⟩) hS.2.2 dX1_pay_60
  · refine lv_iconst (v := nI 1) hx hb dX1_pay_11 (by decide +kernel) ?_
    refine lv_goto (tgt := 49) hx hb dX1_pay_12 (by decide) ?_
    refine va_put (D := D) (ci := 1) (v := .int (nI 1)) (ty := .int) (C := RX1) (T := TX1) (N := 16) hx hb hts hin tyX1 tyX1_ok nmX1 hown hK hP hD hS 0 rfl rfl 15 (by decide) f27 (fun _ h9 => h9) rfl (by decide +kernel) rfl rfl (Nat.le_of_ble_eq_true rfl) dX1_pay_49 (fun H locs hP hD hS => ?_)
    have hP : va_P D vwCl (wM g0 g1 g2 g3 g4 cI cJ d r gb w rm lc k dr pn pa pi 1 ga e2 b rt) H := hP
    have hD : va_D A (wM g0 g1 g2 g3 g4 cI cJ d r gb w rm lc k dr pn pa pi 1 ga e2 b rt) := hD
    refine lv_aload_n hx hb dX1_pay_52 rfl (lv_at hl 0 rfl) ?_
    refine va_get (D := D) (ci := 1) (v := .int (nI 1)) (C := RX1) (T := TX1) (N := 16) hx hb hts hin hown hK hP 0 rfl rfl 15 (by decide) f27 (fun _ h9 => h9) rfl dX1_pay_53 ?_
    refine nk_if_le (tgt := 61) hx hb (by omega) dX1_pay_56 (by decide) (fun c56 => ?_) (fun c56 => ?_)
    · exfalso; omega
    · refine lv_iconst (v := nI 0) hx hb dX1_pay_59 (by decide +kernel) ?_
      exact W.iret (v := (nI 0)) hx hb hr (fun t ht hW => ⟨⟨(nI 0), wM g0 g1 g2 g3 g4 cI cJ d r gb w rm lc k dr pn pa pi 1 ga e2 b rt, rfl, Or.inl ⟨by omega, rfl⟩, by rw [ht]; exact hP, va_K.moved hW.alike hK, hD⟩, hS.F ht⟩) hS.2.2 dX1_pay_60
set_option maxHeartbeats 4000000 in
set_option maxRecDepth 100000 in
theorem c_X1_end (l : Launch) (D : va_G) (g0 g1 g2 g3 g4 : Nat) (cI cJ : ClassId) (d r gb w rm lc k dr pn pa pi th : Nat) (ga e2 b rt : Nat → Nat) (sz : Nat) (p0 : Int32) (z : Int) (a9 : Nat)  (hz : p0.toInt = z) (hpa : 0 ≤ z → p0 = nI a9 ∧ a9 < 2147483648) (hlc : lc ≤ 2) (he2 : ∀ j, j < lc → e2 j ≤ 15001) (hd : d ≤ 15000) : Met l yX1_end wsX1_end { frames := 1, cells := 0, slots := 0, locals := 22 } (nk_Pw D (wM g0 g1 g2 g3 g4 cI cJ d r gb w rm lc k dr pn pa pi th ga e2 b rt) (tX cI cJ) sz [.ref g0, .int p0]) (va_Qi (fun r9 w1 => (¬ (0 ≤ z ∧ z < (lc : Int)) ∧ w1 = wM g0 g1 g2 g3 g4 cI cJ d r gb w rm lc k dr pn pa pi 1 ga e2 b rt) ∨ ((0 ≤ z ∧ z < (lc : Int)) ∧ ¬ (e2 a9 = 0) ∧ w1 = wM g0 g1 g2 g3 g4 cI cJ d r gb w rm lc k dr pn pa pi 2 ga e2 b rt) ∨ ((0 ≤ z ∧ z < (lc : Int)) ∧ (e2 a9 = 0) ∧ r9 = nI (alive (va_up e2 a9 (d + 1)) lc) ∧ w1 = wM g0 g1 g2 g3 g4 cI cJ d r gb w rm lc k dr pn pa pi 0 ga (va_up e2 a9 (d + 1)) b rt)) (fun w1 t => nk_At D (tX cI cJ) (va_A (wM g0 g1 g2 g3 g4 cI cJ d r gb w rm lc k dr pn pa pi th ga e2 b rt) sz) w1 t) (va_A (wM g0 g1 g2 g3 g4 cI cJ d r gb w rm lc k dr pn pa pi th ga e2 b rt) sz)) 0 0 (va_A (wM g0 g1 g2 g3 g4 cI cJ d r gb w rm lc k dr pn pa pi th ga e2 b rt) sz) := by
  refine Met.ofW (cc := cX1_end) (maxL := 2) (ret := (some .int)) (by decide) rfl ?_
  intro p e s m args below meth c s₁ B hml hv
  obtain ⟨hargs, hsz, hP, hK, hD0⟩ := hv
  have hx := B.exec
  have hb := B.bytes
  have hr := B.returns
  have hts := atoms_spec (ws := wsX1_end) B.pre
  have hown : s.vm.findClass RX1 = some m.cls := findClass_of_methodNamed B.named
  have hlocks := B.notSynchronized
  subst hsz
  have hin : ∀ w ∈ wsX10, w ∈ wsX1_end := by decide +kernel
  have hD := hD0.self (sz := s.heap.size)
  generalize hAe : va_A (wM g0 g1 g2 g3 g4 cI cJ d r gb w rm lc k dr pn pa pi th ga e2 b rt) s.heap.size = A at hD ⊢
  have hA : ∀ q : Nat, s.heap.size ≤ q → A q := fun q h => by rw [← hAe]; exact Or.inr h
  have hS : va_S A s.heap s.heap [] := va_S.rf
  have f30 := hts (.fieldLink RX1 30 "EquityReleaseModel" "lives" "I") (by decide +kernel)
  have f17 := hts (.fieldLink RX1 17 "EquityReleaseModel" "ends" "[I") (by decide +kernel)
  have f27 := hts (.fieldLink RX1 27 "EquityReleaseModel" "thrown" "I") (by decide +kernel)
  have f40 := hts (.fieldLink RX1 40 "EquityReleaseModel" "day" "I") (by decide +kernel)
  have hl := lv_entry ([.ref g0, .int p0]) (n := 2) (Nat.le_of_ble_eq_true rfl)
  have hEe : entryFrame m args 2 = entryFrame m ([.ref g0, .int p0] : List Value).toArray 2 := by rw [hargs]
  rw [hEe, lg_entry_eq]
  generalize (lg_sl ([.ref g0, .int p0]) ++ List.replicate (2 - (lg_sl ([.ref g0, .int p0])).length) Slot.unset).toArray = ls at hl ⊢
  have hl : lv_has ls 2 [(0, .ref g0), (1, .int p0)] := hl
  refine lv_aload_n hx hb dX1_end_0 rfl (lv_at hl 0 rfl) ?_
  refine lv_iload_n hx hb dX1_end_1 rfl (lv_at hl 1 rfl) ?_
  refine lv_iconst (v := nI 0) hx hb dX1_end_2 (by decide +kernel) ?_
  refine lv_aload_n hx hb dX1_end_3 rfl (lv_at hl 0 rfl) ?_
  refine va_get (D := D) (ci := 1) (v := .int (nI lc)) (C := RX1) (T := TX1) (N := 16) hx hb hts hin hown hK hP 0 rfl rfl 5 (by decide) f30 (fun _ h9 => h9) rfl dX1_end_4 ?_
  refine lv_iconst (v := nI 1) hx hb dX1_end_7 (by decide +kernel) ?_
  refine lv_isub hx hb dX1_end_8 ?_
  refine nk_rd (W.runS (As := [.int p0, .int (nI 0), .int ((nI lc) - (nI 1))]) (rest := [.ref g0]) ⟨hx, hb, hml, hown, hts⟩ (c_X1_in l p0 (nI 0) ((nI lc) - (nI 1)) z ((0 : Nat) : Int) (((lc : Nat) : Int) - ((1 : Nat) : Int)) hz (nI_toInt (by omega)) (nk_subI (by omega) (by omega))) (va_cwS 3 hts gX1_end_X1_in rfl rfl rfl (by decide +kernel) ⟨Nat.le_of_ble_eq_true rfl, Nat.le_of_ble_eq_true rfl⟩) ⟨nk_P0.blind, fun U hU hW => ⟨rfl, trivial⟩⟩ rfl rfl hl.1 rfl (lv_room (Nat.le_of_ble_eq_true rfl)) dX1_end_9 ⟨Nat.zero_le _, Nat.zero_le _⟩) ?_
  refine W.eq (g2 := F0 m 12 ls [.int (nI (if ((0 : Nat) : Int) ≤ z ∧ z ≤ (((lc : Nat) : Int) - ((1 : Nat) : Int)) then 1 else 0)), .ref g0]) rfl ?_
  refine nk_bif_ne (tgt := 19) hx hb dX1_end_12 (by decide) (fun c12 => ?_) (fun c12 => ?_)
  · obtain ⟨rfl, ha9⟩ := hpa (by omega)
    have za : z = (a9 : Int) := by rw [← hz]; exact nI_toInt (by omega)
    refine lv_aload_n hx hb dX1_end_19 rfl (lv_at hl 0 rfl) ?_
    refine va_get (D := D) (ci := 1) (v := .ref g2) (C := RX1) (T := TX1) (N := 16) hx hb hts hin hown hK hP 0 rfl rfl 7 (by decide) f17 (fun _ h9 => h9) rfl dX1_end_20 ?_
    refine lv_iload_n hx hb dX1_end_23 rfl (lv_at hl 1 rfl) ?_
    refine nk_iald hx hb hK hP 2 0 rfl rfl (by omega) (by decide) dX1_end_24 ?_
    have he1 := he2 a9 (by omega)
    refine nk_if_le (tgt := 32) hx hb (by omega) dX1_end_25 (by decide) (fun c25 => ?_) (fun c25 => ?_)
    · refine lv_iconst (v := nI 0) hx hb dX1_end_32 (by decide +kernel) ?_
      refine va_put (D := D) (ci := 1) (v := .int (nI 0)) (ty := .int) (C := RX1) (T := TX1) (N := 16) hx hb hts hin tyX1 tyX1_ok nmX1 hown hK hP hD hS 0 rfl rfl 15 (by decide) f27 (fun _ h9 => h9) rfl (by decide +kernel) rfl rfl (Nat.le_of_ble_eq_true rfl) dX1_end_33 (fun H locs hP hD hS => ?_)
      have hP : va_P D vwCl (wM g0 g1 g2 g3 g4 cI cJ d r gb w rm lc k dr pn pa pi 0 ga e2 b rt) H := hP
      have hD : va_D A (wM g0 g1 g2 g3 g4 cI cJ d r gb w rm lc k dr pn pa pi 0 ga e2 b rt) := hD
      refine lv_aload_n hx hb dX1_end_36 rfl (lv_at hl 0 rfl) ?_
      refine va_get (D := D) (ci := 1) (v := .int (nI 0)) (C := RX1) (T := TX1) (N := 16) hx hb hts hin hown hK hP 0 rfl rfl 15 (by decide) f27 (fun _ h9 => h9) rfl dX1_end_37 ?_
      refine nk_if_le (tgt := 45) hx hb (by omega) dX1_end_40 (by decide) (fun c40 => ?_) (fun c40 => ?_)
      · refine lv_aload_n hx hb dX1_end_45 rfl (lv_at hl 0 rfl) ?_
        refine va_get (D := D) (ci := 1) (v := .ref g2) (C := RX1) (T := TX1) (N := 16) hx hb hts hin hown hK hP 0 rfl rfl 7 (by decide) f17 (fun _ h9 => h9) rfl dX1_end_46 ?_
        refine lv_iload_n hx hb dX1_end_49 rfl (lv_at hl 1 rfl) ?_
        refine lv_aload_n hx hb dX1_end_50 rfl (lv_at hl 0 rfl) ?_
        refine va_get (D := D) (ci := 1) (v := .int (nI d)) (C := RX1) (T := TX1) (N := 16) hx hb hts hin hown hK hP 0 rfl rfl 0 (by decide) f40 (fun _ h9 => h9) rfl dX1_end_51 ?_
        refine lv_iconst (v := nI 1) hx hb dX1_end_54 (by decide +kernel) ?_
        refine nk_iadd hx hb dX1_end_55 ?_
        refine nk_iast hx hb hK hP hD hS 2 0 rfl rfl (by omega) (by decide) dX1_end_56 (fun H locs hP hD hS => ?_)
        have hP : va_P D vwCl (wM g0 g1 g2 g3 g4 cI cJ d r gb w rm lc k dr pn pa pi 0 ga (va_up e2 a9 (d + 1)) b rt) H := hP
        have hD : va_D A (wM g0 g1 g2 g3 g4 cI cJ d r gb w rm lc k dr pn pa pi 0 ga (va_up e2 a9 (d + 1)) b rt) := hD
        refine lv_aload_n hx hb dX1_end_57 rfl (lv_at hl 0 rfl) ?_
        refine nk_rd (W.runV (As := []) (rest := []) ⟨hx, hb, hml, hown, hts⟩ (c_X1_left l D g0 g1 g2 g3 g4 cI cJ d r gb w rm lc k dr pn pa pi 0 ga (va_up e2 a9 (d + 1)) b rt hlc (fun j hj => by show (if j = a9 then d + 1 else e2 j) ≤ 15001; split; omega; exact he2 j hj)) (cwV 0 hts gX1_end_X1_left rfl rfl rfl (by decide +kernel) ⟨Nat.le_of_ble_eq_true rfl, Nat.le_of_ble_eq_true rfl⟩) ⟨nk_Pr.blind, va_recv hK hP (ci := 1) (q0 := 0) rfl rfl, fun U hU hW => ⟨rfl, by rw [hU]; exact hP, va_K.moved hW.alike hK⟩⟩ rfl rfl hl.1 rfl (lv_room (Nat.le_of_ble_eq_true rfl)) dX1_end_58 ⟨Nat.zero_le _, Nat.zero_le _⟩) ?_
        refine W.eq (g2 := F0 m 61 ls [.int (nI (alive (va_up e2 a9 (d + 1)) lc))]) rfl ?_
        exact W.iret (v := (nI (alive (va_up e2 a9 (d + 1)) lc))) hx hb hr (fun t ht hW => ⟨⟨(nI (alive (va_up e2 a9 (d + 1)) lc)), wM g0 g1 g2 g3 g4 cI cJ d r gb w rm lc k dr pn pa pi 0 ga (va_up e2 a9 (d + 1)) b rt, rfl, Or.inr (Or.inr ⟨by omega, by omega, rfl, rfl⟩), by rw [ht]; exact hP, va_K.moved hW.alike hK, hD⟩, hS.F ht⟩) hS.2.2 dX1_end_61
      · exfalso; omega
    · refine lv_iconst (v := nI 2) hx hb dX1_end_28 (by decide +kernel) ?_
      refine lv_goto (tgt := 33) hx hb dX1_end_29 (by decide) ?_
      refine va_put (D := D) (ci := 1) (v := .int (nI 2)) (ty := .int) (C := RX1) (T := TX1) (N := 16) hx hb hts hin tyX1 tyX1_ok nmX1 hown hK hP hD hS 0 rfl rfl 15 (by decide) f27 (fun _ h9 => h9) rfl (by decide +kernel) rfl rfl (Nat.le_of_ble_eq_true rfl) dX1_end_33 (fun H locs hP hD hS => ?_)
      have hP : va_P D vwCl (wM g0 g1 g2 g3 g4 cI cJ d r gb w rm lc k dr pn pa pi 2 ga e2 b rt) H := hP
      have hD : va_D A (wM g0 g1 g2 g3 g4 cI cJ d r gb w rm lc k dr pn pa pi 2 ga e2 b rt) := hD
      refine lv_aload_n hx hb dX1_end_36 rfl (lv_at hl 0 rfl) ?_
      refine va_get (D := D) (ci := 1) (v := .int (nI 2)) (C := RX1) (T := TX1) (N := 16) hx hb hts hin hown hK hP 0 rfl rfl 15 (by decide) f27 (fun _ h9 => h9) rfl dX1_end_37 ?_
      refine nk_if_le (tgt := 45) hx hb (by omega) dX1_end_40 (by decide) (fun c40 => ?_) (fun c40 => ?_)
      · exfalso; omega
      · refine lv_iconst (v := nI 0) hx hb dX1_end_43 (by decide +kernel) ?_
        exact W.iret (v := (nI 0)) hx hb hr (fun t ht hW => ⟨⟨(nI 0), wM g0 g1 g2 g3 g4 cI cJ d r gb w rm lc k dr pn pa pi 2 ga e2 b rt, rfl, Or.inr (Or.inl ⟨by omega, by omega, rfl⟩), by rw [ht]; exact hP, va_K.moved hW.alike hK, hD⟩, hS.F ht⟩) hS.2.2 dX1_end_44
  · refine lv_iconst (v := nI 1) hx hb dX1_end_15 (by decide +kernel) ?_
    refine lv_goto (tgt := 33) hx hb dX1_end_16 (by decide) ?_
    refine va_put (D := D) (ci := 1) (v := .int (nI 1)) (ty := .int) (C := RX1) (T := TX1) (N := 16) hx hb hts hin tyX1 tyX1_ok nmX1 hown hK hP hD hS 0 rfl rfl 15 (by decide) f27 (fun _ h9 => h9) rfl (by decide +kernel) rfl rfl (Nat.le_of_ble_eq_true rfl) dX1_end_33 (fun H locs hP hD hS => ?_)
    have hP : va_P D vwCl (wM g0 g1 g2 g3 g4 cI cJ d r gb w rm lc k dr pn pa pi 1 ga e2 b rt) H := hP
    have hD : va_D A (wM g0 g1 g2 g3 g4 cI cJ d r gb w rm lc k dr pn pa pi 1 ga e2 b rt) := hD
    refine lv_aload_n hx hb dX1_end_36 rfl (lv_at hl 0 rfl) ?_
    refine va_get (D := D) (ci := 1) (v := .int (nI 1)) (C := RX1) (T := TX1) (N := 16) hx hb hts hin hown hK hP 0 rfl rfl 15 (by decide) f27 (fun _ h9 => h9) rfl dX1_end_37 ?_
    refine nk_if_le (tgt := 45) hx hb (by omega) dX1_end_40 (by decide) (fun c40 => ?_) (fun c40 => ?_)
    · exfalso; omega
    · refine lv_iconst (v := nI 0) hx hb dX1_end_43 (by decide +kernel) ?_
      exact W.iret (v := (nI 0)) hx hb hr (fun t ht hW => ⟨⟨(nI 0), wM g0 g1 g2 g3 g4 cI cJ d r gb w rm lc k dr pn pa pi 1 ga e2 b rt, rfl, Or.inl ⟨by omega, rfl⟩, by rw [ht]; exact hP, va_K.moved hW.alike hK, hD⟩, hS.F ht⟩) hS.2.2 dX1_end_44
set_option maxHeartbeats 4000000 in
set_option maxRecDepth 100000 in
theorem c_X1_value (l : Launch) (D : va_G) (g0 g1 g2 g3 g4 : Nat) (cI cJ : ClassId) (d r gb w rm lc k dr pn pa pi th : Nat) (ga e2 b rt : Nat → Nat) (sz : Nat) (p0 : Int32) (z : Int) (a9 : Nat)  (hz : p0.toInt = z) (hpa : 0 ≤ z → p0 = nI a9 ∧ a9 < 2147483648) (hgb2 : gb ≤ 15001) : Met l yX1_value wsX1_value { frames := 1, cells := 0, slots := 0, locals := 22 } (nk_Pw D (wM g0 g1 g2 g3 g4 cI cJ d r gb w rm lc k dr pn pa pi th ga e2 b rt) (tX cI cJ) sz [.ref g0, .int p0]) (va_Qi (fun r9 w1 => (¬ (0 ≤ z ∧ z ≤ 10000000) ∧ w1 = wM g0 g1 g2 g3 g4 cI cJ d r gb w rm lc k dr pn pa pi 1 ga e2 b rt) ∨ ((0 ≤ z ∧ z ≤ 10000000) ∧ ¬ (0 < gb) ∧ w1 = wM g0 g1 g2 g3 g4 cI cJ d r gb w rm lc k dr pn pa pi 2 ga e2 b rt) ∨ ((0 ≤ z ∧ z ≤ 10000000) ∧ (0 < gb) ∧ r9 = nI w ∧ w1 = wM g0 g1 g2 g3 g4 cI cJ d r gb a9 rm lc k dr pn pa pi 0 ga e2 b rt)) (fun w1 t => nk_At D (tX cI cJ) (va_A (wM g0 g1 g2 g3 g4 cI cJ d r gb w rm lc k dr pn pa pi th ga e2 b rt) sz) w1 t) (va_A (wM g0 g1 g2 g3 g4 cI cJ d r gb w rm lc k dr pn pa pi th ga e2 b rt) sz)) 0 0 (va_A (wM g0 g1 g2 g3 g4 cI cJ d r gb w rm lc k dr pn pa pi th ga e2 b rt) sz) := by
  refine Met.ofW (cc := cX1_value) (maxL := 3) (ret := (some .int)) (by decide) rfl ?_
  intro p e s m args below meth c s₁ B hml hv
  obtain ⟨hargs, hsz, hP, hK, hD0⟩ := hv
  have hx := B.exec
  have hb := B.bytes
  have hr := B.returns
  have hts := atoms_spec (ws := wsX1_value) B.pre
  have hown : s.vm.findClass RX1 = some m.cls := findClass_of_methodNamed B.named
  have hlocks := B.notSynchronized
  subst hsz
  have hin : ∀ w ∈ wsX10, w ∈ wsX1_value := by decide +kernel
  have hD := hD0.self (sz := s.heap.size)
  generalize hAe : va_A (wM g0 g1 g2 g3 g4 cI cJ d r gb w rm lc k dr pn pa pi th ga e2 b rt) s.heap.size = A at hD ⊢
  have hA : ∀ q : Nat, s.heap.size ≤ q → A q := fun q h => by rw [← hAe]; exact Or.inr h
  have hS : va_S A s.heap s.heap [] := va_S.rf
  have k57 : (Cond.constant RX1 57 (nI 10000000)).before args s = true := by
    rw [show (nI 10000000 : Int32) = 10000000 from by decide +kernel]
    exact hts (.constant RX1 57 (10000000)) (by decide +kernel)
  have f33 := hts (.fieldLink RX1 33 "EquityReleaseModel" "begun" "I") (by decide +kernel)
  have f27 := hts (.fieldLink RX1 27 "EquityReleaseModel" "thrown" "I") (by decide +kernel)
  have f69 := hts (.fieldLink RX1 69 "EquityReleaseModel" "worth" "I") (by decide +kernel)
  have hl := lv_entry ([.ref g0, .int p0]) (n := 3) (Nat.le_of_ble_eq_true rfl)
  have hEe : entryFrame m args 3 = entryFrame m ([.ref g0, .int p0] : List Value).toArray 3 := by rw [hargs]
  rw [hEe, lg_entry_eq]
  generalize (lg_sl ([.ref g0, .int p0]) ++ List.replicate (3 - (lg_sl ([.ref g0, .int p0])).length) Slot.unset).toArray = ls at hl ⊢
  have hl : lv_has ls 3 [(0, .ref g0), (1, .int p0)] := hl
  refine lv_aload_n hx hb dX1_value_0 rfl (lv_at hl 0 rfl) ?_
  refine lv_iload_n hx hb dX1_value_1 rfl (lv_at hl 1 rfl) ?_
  refine lv_iconst (v := nI 0) hx hb dX1_value_2 (by decide +kernel) ?_
  refine lv_ldc (v := nI 10000000) hx hb hown k57 dX1_value_3 ?_
  refine nk_rd (W.runS (As := [.int p0, .int (nI 0), .int (nI 10000000)]) (rest := [.ref g0]) ⟨hx, hb, hml, hown, hts⟩ (c_X1_in l p0 (nI 0) (nI 10000000) z ((0 : Nat) : Int) ((10000000 : Nat) : Int) hz (nI_toInt (by omega)) (nI_toInt (by omega))) (va_cwS 3 hts gX1_value_X1_in rfl rfl rfl (by decide +kernel) ⟨Nat.le_of_ble_eq_true rfl, Nat.le_of_ble_eq_true rfl⟩) ⟨nk_P0.blind, fun U hU hW => ⟨rfl, trivial⟩⟩ rfl rfl hl.1 rfl (lv_room (Nat.le_of_ble_eq_true rfl)) dX1_value_5 ⟨Nat.zero_le _, Nat.zero_le _⟩) ?_
  refine W.eq (g2 := F0 m 8 ls [.int (nI (if ((0 : Nat) : Int) ≤ z ∧ z ≤ ((10000000 : Nat) : Int) then 1 else 0)), .ref g0]) rfl ?_
  refine nk_bif_ne (tgt := 15) hx hb dX1_value_8 (by decide) (fun c8 => ?_) (fun c8 => ?_)
  · obtain ⟨rfl, ha9⟩ := hpa (by omega)
    have za : z = (a9 : Int) := by rw [← hz]; exact nI_toInt (by omega)
    refine lv_aload_n hx hb dX1_value_15 rfl (lv_at hl 0 rfl) ?_
    refine va_get (D := D) (ci := 1) (v := .int (nI gb)) (C := RX1) (T := TX1) (N := 16) hx hb hts hin hown hK hP 0 rfl rfl 2 (by decide) f33 (fun _ h9 => h9) rfl dX1_value_16 ?_
    refine nk_if_ne (tgt := 26) hx hb (by omega) dX1_value_19 (by decide) (fun c19 => ?_) (fun c19 => ?_)
    · refine lv_iconst (v := nI 0) hx hb dX1_value_26 (by decide +kernel) ?_
      refine va_put (D := D) (ci := 1) (v := .int (nI 0)) (ty := .int) (C := RX1) (T := TX1) (N := 16) hx hb hts hin tyX1 tyX1_ok nmX1 hown hK hP hD hS 0 rfl rfl 15 (by decide) f27 (fun _ h9 => h9) rfl (by decide +kernel) rfl rfl (Nat.le_of_ble_eq_true rfl) dX1_value_27 (fun H locs hP hD hS => ?_)
      have hP : va_P D vwCl (wM g0 g1 g2 g3 g4 cI cJ d r gb w rm lc k dr pn pa pi 0 ga e2 b rt) H := hP
      have hD : va_D A (wM g0 g1 g2 g3 g4 cI cJ d r gb w rm lc k dr pn pa pi 0 ga e2 b rt) := hD
      refine lv_aload_n hx hb dX1_value_30 rfl (lv_at hl 0 rfl) ?_
      refine va_get (D := D) (ci := 1) (v := .int (nI 0)) (C := RX1) (T := TX1) (N := 16) hx hb hts hin hown hK hP 0 rfl rfl 15 (by decide) f27 (fun _ h9 => h9) rfl dX1_value_31 ?_
      refine nk_if_le (tgt := 39) hx hb (by omega) dX1_value_34 (by decide) (fun c34 => ?_) (fun c34 => ?_)
      · refine lv_aload_n hx hb dX1_value_39 rfl (lv_at hl 0 rfl) ?_
        refine va_get (D := D) (ci := 1) (v := .int (nI w)) (C := RX1) (T := TX1) (N := 16) hx hb hts hin hown hK hP 0 rfl rfl 3 (by decide) f69 (fun _ h9 => h9) rfl dX1_value_40 ?_
        refine lv_istore_n (lv' := [(2, .int (nI w)), (0, .ref g0), (1, .int (nI a9))]) hx hb dX1_value_43 rfl hl (by decide) rfl (fun ls hl => ?_)
        refine lv_aload_n hx hb dX1_value_44 rfl (lv_at hl 1 rfl) ?_
        refine lv_iload_n hx hb dX1_value_45 rfl (lv_at hl 2 rfl) ?_
        refine va_put (D := D) (ci := 1) (v := .int (nI a9)) (ty := .int) (C := RX1) (T := TX1) (N := 16) hx hb hts hin tyX1 tyX1_ok nmX1 hown hK hP hD hS 0 rfl rfl 3 (by decide) f69 (fun _ h9 => h9) rfl (by decide +kernel) rfl rfl (Nat.le_of_ble_eq_true rfl) dX1_value_46 (fun H locs hP hD hS => ?_)
        have hP : va_P D vwCl (wM g0 g1 g2 g3 g4 cI cJ d r gb a9 rm lc k dr pn pa pi 0 ga e2 b rt) H := hP
        have hD : va_D A (wM g0 g1 g2 g3 g4 cI cJ d r gb a9 rm lc k dr pn pa pi 0 ga e2 b rt) := hD
        refine lv_iload_n hx hb dX1_value_49 rfl (lv_at hl 0 rfl) ?_
        exact W.iret (v := (nI w)) hx hb hr (fun t ht hW => ⟨⟨(nI w), wM g0 g1 g2 g3 g4 cI cJ d r gb a9 rm lc k dr pn pa pi 0 ga e2 b rt, rfl, Or.inr (Or.inr ⟨by omega, by omega, rfl, rfl⟩), by rw [ht]; exact hP, va_K.moved hW.alike hK, hD⟩, hS.F ht⟩) hS.2.2 dX1_value_50
      · exfalso; omega
    · refine lv_iconst (v := nI 2) hx hb dX1_value_22 (by decide +kernel) ?_
      refine lv_goto (tgt := 27) hx hb dX1_value_23 (by decide) ?_
      refine va_put (D := D) (ci := 1) (v := .int (nI 2)) (ty := .int) (C := RX1) (T := TX1) (N := 16) hx hb hts hin tyX1 tyX1_ok nmX1 hown hK hP hD hS 0 rfl rfl 15 (by decide) f27 (fun _ h9 => h9) rfl (by decide +kernel) rfl rfl (Nat.le_of_ble_eq_true rfl) dX1_value_27 (fun H locs hP hD hS => ?_)
      have hP : va_P D vwCl (wM g0 g1 g2 g3 g4 cI cJ d r gb w rm lc k dr pn pa pi 2 ga e2 b rt) H := hP
      have hD : va_D A (wM g0 g1 g2 g3 g4 cI cJ d r gb w rm lc k dr pn pa pi 2 ga e2 b rt) := hD
      refine lv_aload_n hx hb dX1_value_30 rfl (lv_at hl 0 rfl) ?_
      refine va_get (D := D) (ci := 1) (v := .int (nI 2)) (C := RX1) (T := TX1) (N := 16) hx hb hts hin hown hK hP 0 rfl rfl 15 (by decide) f27 (fun _ h9 => h9) rfl dX1_value_31 ?_
      refine nk_if_le (tgt := 39) hx hb (by omega) dX1_value_34 (by decide) (fun c34 => ?_) (fun c34 => ?_)
      · exfalso; omega
      · refine lv_iconst (v := nI 0) hx hb dX1_value_37 (by decide +kernel) ?_
        exact W.iret (v := (nI 0)) hx hb hr (fun t ht hW => ⟨⟨(nI 0), wM g0 g1 g2 g3 g4 cI cJ d r gb w rm lc k dr pn pa pi 2 ga e2 b rt, rfl, Or.inr (Or.inl ⟨by omega, by omega, rfl⟩), by rw [ht]; exact hP, va_K.moved hW.alike hK, hD⟩, hS.F ht⟩) hS.2.2 dX1_value_38
  · refine lv_iconst (v := nI 1) hx hb dX1_value_11 (by decide +kernel) ?_
    refine lv_goto (tgt := 27) hx hb dX1_value_12 (by decide) ?_
    refine va_put (D := D) (ci := 1) (v := .int (nI 1)) (ty := .int) (C := RX1) (T := TX1) (N := 16) hx hb hts hin tyX1 tyX1_ok nmX1 hown hK hP hD hS 0 rfl rfl 15 (by decide) f27 (fun _ h9 => h9) rfl (by decide +kernel) rfl rfl (Nat.le_of_ble_eq_true rfl) dX1_value_27 (fun H locs hP hD hS => ?_)
    have hP : va_P D vwCl (wM g0 g1 g2 g3 g4 cI cJ d r gb w rm lc k dr pn pa pi 1 ga e2 b rt) H := hP
    have hD : va_D A (wM g0 g1 g2 g3 g4 cI cJ d r gb w rm lc k dr pn pa pi 1 ga e2 b rt) := hD
    refine lv_aload_n hx hb dX1_value_30 rfl (lv_at hl 0 rfl) ?_
    refine va_get (D := D) (ci := 1) (v := .int (nI 1)) (C := RX1) (T := TX1) (N := 16) hx hb hts hin hown hK hP 0 rfl rfl 15 (by decide) f27 (fun _ h9 => h9) rfl dX1_value_31 ?_
    refine nk_if_le (tgt := 39) hx hb (by omega) dX1_value_34 (by decide) (fun c34 => ?_) (fun c34 => ?_)
    · exfalso; omega
    · refine lv_iconst (v := nI 0) hx hb dX1_value_37 (by decide +kernel) ?_
      exact W.iret (v := (nI 0)) hx hb hr (fun t ht hW => ⟨⟨(nI 0), wM g0 g1 g2 g3 g4 cI cJ d r gb w rm lc k dr pn pa pi 1 ga e2 b rt, rfl, Or.inl ⟨by omega, rfl⟩, by rw [ht]; exact hP, va_K.moved hW.alike hK, hD⟩, hS.F ht⟩) hS.2.2 dX1_value_38
set_option maxHeartbeats 4000000 in
set_option maxRecDepth 100000 in
theorem c_X1_move (l : Launch) (D : va_G) (g0 g1 g2 g3 g4 : Nat) (cI cJ : ClassId) (d r gb w rm lc k dr pn pa pi th : Nat) (ga e2 b rt : Nat → Nat) (sz : Nat) (p0 : Int32) (z : Int) (a9 : Nat)  (hz : p0.toInt = z) (hpa : 0 ≤ z → p0 = nI a9 ∧ a9 < 2147483648) (hgb2 : gb ≤ 15001) (hlc : lc ≤ 2) (he2 : ∀ j, j < lc → e2 j ≤ 15001) (hga : ∀ j, j < lc → 55 ≤ ga j ∧ ga j ≤ 95) (hd : d ≤ 15000) (hk : k ≤ 20) (hbs : sm b k < 1000000000000000000) (hb9 : ∀ j, j < k → b j < 4611686018427387904) (hpn : pn ≤ 40) : Met l yX1_move wsX1_move { frames := 2, cells := 0, slots := 0, locals := 45 } (nk_Pw D (wM g0 g1 g2 g3 g4 cI cJ d r gb w rm lc k dr pn pa pi th ga e2 b rt) (tX cI cJ) sz [.ref g0, .int p0]) (va_Ql (fun r9 w1 => (¬ (0 ≤ z ∧ z ≤ 10000000) ∧ w1 = wM g0 g1 g2 g3 g4 cI cJ d r gb w rm lc k dr pn pa pi 1 ga e2 b rt) ∨ ((0 ≤ z ∧ z ≤ 10000000) ∧ ¬ ((0 < gb ∧ 0 < alive e2 lc) ∧ pn < 40) ∧ w1 = wM g0 g1 g2 g3 g4 cI cJ d r gb w rm lc k dr pn pa pi 2 ga e2 b rt) ∨ ((0 ≤ z ∧ z ≤ 10000000) ∧ ((0 < gb ∧ 0 < alive e2 lc) ∧ pn < 40) ∧ r9 = lN (ceilA (sm b k) - gL a9 (lstA ga e2 lc - 1 + d / 365)) ∧ ((ceilA (sm b k) ≤ gL a9 (lstA ga e2 lc - 1 + d / 365) ∧ w1 = wM g0 g1 g2 g3 g4 cI cJ d r gb a9 (gL a9 (lstA ga e2 lc - 1 + d / 365) - ceilA (sm b k)) lc k dr pn pa pi 0 ga e2 b rt) ∨ (gL a9 (lstA ga e2 lc - 1 + d / 365) < ceilA (sm b k) ∧ w1 = wM g0 g1 g2 g3 g4 cI cJ d r gb a9 0 lc k dr (pn + 1) pa pi 0 ga e2 (tkB b ((ceilA (sm b k) - gL a9 (lstA ga e2 lc - 1 + d / 365)) * 10000) k) rt)))) (fun w1 t => nk_At D (tX cI cJ) (va_A (wM g0 g1 g2 g3 g4 cI cJ d r gb w rm lc k dr pn pa pi th ga e2 b rt) sz) w1 t) (va_A (wM g0 g1 g2 g3 g4 cI cJ d r gb w rm lc k dr pn pa pi th ga e2 b rt) sz)) 0 0 (va_A (wM g0 g1 g2 g3 g4 cI cJ d r gb w rm lc k dr pn pa pi th ga e2 b rt) sz) := by
  refine Met.ofW (cc := cX1_move) (maxL := 6) (ret := (some .long)) (by decide) rfl ?_
  intro p e s m args below meth c s₁ B hml hv
  obtain ⟨hargs, hsz, hP, hK, hD0⟩ := hv
  have hx := B.exec
  have hb := B.bytes
  have hr := B.returns
  have hts := atoms_spec (ws := wsX1_move) B.pre
  have hown : s.vm.findClass RX1 = some m.cls := findClass_of_methodNamed B.named
  have hlocks := B.notSynchronized
  subst hsz
  have hin : ∀ w ∈ wsX10, w ∈ wsX1_move := by decide +kernel
  have hD := hD0.self (sz := s.heap.size)
  generalize hAe : va_A (wM g0 g1 g2 g3 g4 cI cJ d r gb w rm lc k dr pn pa pi th ga e2 b rt) s.heap.size = A at hD ⊢
  have hA : ∀ q : Nat, s.heap.size ≤ q → A q := fun q h => by rw [← hAe]; exact Or.inr h
  have hS : va_S A s.heap s.heap [] := va_S.rf
  have k57 : (Cond.constant RX1 57 (nI 10000000)).before args s = true := by
    rw [show (nI 10000000 : Int32) = 10000000 from by decide +kernel]
    exact hts (.constant RX1 57 (10000000)) (by decide +kernel)
  have f27 := hts (.fieldLink RX1 27 "EquityReleaseModel" "thrown" "I") (by decide +kernel)
  have f108 := hts (.fieldLink RX1 108 "EquityReleaseModel" "times" "I") (by decide +kernel)
  have f69 := hts (.fieldLink RX1 69 "EquityReleaseModel" "worth" "I") (by decide +kernel)
  have f72 := hts (.fieldLink RX1 72 "EquityReleaseModel" "room" "I") (by decide +kernel)
  have hl := lv_entry ([.ref g0, .int p0]) (n := 6) (Nat.le_of_ble_eq_true rfl)
  have hEe : entryFrame m args 6 = entryFrame m ([.ref g0, .int p0] : List Value).toArray 6 := by rw [hargs]
  rw [hEe, lg_entry_eq]
  generalize (lg_sl ([.ref g0, .int p0]) ++ List.replicate (6 - (lg_sl ([.ref g0, .int p0])).length) Slot.unset).toArray = ls at hl ⊢
  have hl : lv_has ls 6 [(0, .ref g0), (1, .int p0)] := hl
  refine lv_aload_n hx hb dX1_move_0 rfl (lv_at hl 0 rfl) ?_
  refine lv_iload_n hx hb dX1_move_1 rfl (lv_at hl 1 rfl) ?_
  refine lv_iconst (v := nI 0) hx hb dX1_move_2 (by decide +kernel) ?_
  refine lv_ldc (v := nI 10000000) hx hb hown k57 dX1_move_3 ?_
  refine nk_rd (W.runS (As := [.int p0, .int (nI 0), .int (nI 10000000)]) (rest := [.ref g0]) ⟨hx, hb, hml, hown, hts⟩ (c_X1_in l p0 (nI 0) (nI 10000000) z ((0 : Nat) : Int) ((10000000 : Nat) : Int) hz (nI_toInt (by omega)) (nI_toInt (by omega))) (va_cwS 3 hts gX1_move_X1_in rfl rfl rfl (by decide +kernel) ⟨Nat.le_of_ble_eq_true rfl, Nat.le_of_ble_eq_true rfl⟩) ⟨nk_P0.blind, fun U hU hW => ⟨rfl, trivial⟩⟩ rfl rfl hl.1 rfl (lv_room (Nat.le_of_ble_eq_true rfl)) dX1_move_5 ⟨Nat.zero_le _, Nat.zero_le _⟩) ?_
  refine W.eq (g2 := F0 m 8 ls [.int (nI (if ((0 : Nat) : Int) ≤ z ∧ z ≤ ((10000000 : Nat) : Int) then 1 else 0)), .ref g0]) rfl ?_
  refine nk_bif_ne (tgt := 15) hx hb dX1_move_8 (by decide) (fun c8 => ?_) (fun c8 => ?_)
  · obtain ⟨rfl, ha9⟩ := hpa (by omega)
    have za : z = (a9 : Int) := by rw [← hz]; exact nI_toInt (by omega)
    refine lv_aload_n hx hb dX1_move_15 rfl (lv_at hl 0 rfl) ?_
    refine nk_rd (W.runV (As := []) (rest := [.ref g0]) ⟨hx, hb, hml, hown, hts⟩ (c_X1_isOn l D g0 g1 g2 g3 g4 cI cJ d r gb w rm lc k dr pn pa pi th ga e2 b rt (by omega) hlc he2) (cwV 0 hts gX1_move_X1_isOn rfl rfl rfl (by decide +kernel) ⟨Nat.le_of_ble_eq_true rfl, Nat.le_of_ble_eq_true rfl⟩) ⟨nk_Pr.blind, va_recv hK hP (ci := 1) (q0 := 0) rfl rfl, fun U hU hW => ⟨rfl, by rw [hU]; exact hP, va_K.moved hW.alike hK⟩⟩ rfl rfl hl.1 rfl (lv_room (Nat.le_of_ble_eq_true rfl)) dX1_move_16 ⟨Nat.zero_le _, Nat.zero_le _⟩) ?_
    refine W.eq (g2 := F0 m 19 ls [.int (nI (if 0 < gb ∧ 0 < alive e2 lc then 1 else 0)), .ref g0]) rfl ?_
    refine nk_bif_eq (tgt := 31) hx hb dX1_move_19 (by decide) (fun c19 => ?_) (fun c19 => ?_)
    · refine lv_iconst (v := nI 2) hx hb dX1_move_31 (by decide +kernel) ?_
      refine lv_goto (tgt := 36) hx hb dX1_move_32 (by decide) ?_
      refine va_put (D := D) (ci := 1) (v := .int (nI 2)) (ty := .int) (C := RX1) (T := TX1) (N := 16) hx hb hts hin tyX1 tyX1_ok nmX1 hown hK hP hD hS 0 rfl rfl 15 (by decide) f27 (fun _ h9 => h9) rfl (by decide +kernel) rfl rfl (Nat.le_of_ble_eq_true rfl) dX1_move_36 (fun H locs hP hD hS => ?_)
      have hP : va_P D vwCl (wM g0 g1 g2 g3 g4 cI cJ d r gb w rm lc k dr pn pa pi 2 ga e2 b rt) H := hP
      have hD : va_D A (wM g0 g1 g2 g3 g4 cI cJ d r gb w rm lc k dr pn pa pi 2 ga e2 b rt) := hD
      refine lv_aload_n hx hb dX1_move_39 rfl (lv_at hl 0 rfl) ?_
      refine va_get (D := D) (ci := 1) (v := .int (nI 2)) (C := RX1) (T := TX1) (N := 16) hx hb hts hin hown hK hP 0 rfl rfl 15 (by decide) f27 (fun _ h9 => h9) rfl dX1_move_40 ?_
      refine nk_if_le (tgt := 48) hx hb (by omega) dX1_move_43 (by decide) (fun c43 => ?_) (fun c43 => ?_)
      · exfalso; omega
      · refine lv_lconst (v := lN 0) hx hb dX1_move_46 (by decide +kernel) ?_
        exact W.lret (v := (lN 0)) hx hb hr (fun t ht hW => ⟨⟨(lN 0), wM g0 g1 g2 g3 g4 cI cJ d r gb w rm lc k dr pn pa pi 2 ga e2 b rt, rfl, Or.inr (Or.inl ⟨by omega, by omega, rfl⟩), by rw [ht]; exact hP, va_K.moved hW.alike hK, hD⟩, hS.F ht⟩) hS.2.2 dX1_move_47
    · refine lv_aload_n hx hb dX1_move_22 rfl (lv_at hl 0 rfl) ?_
      refine va_get (D := D) (ci := 1) (v := .int (nI pn)) (C := RX1) (T := TX1) (N := 16) hx hb hts hin hown hK hP 0 rfl rfl 12 (by decide) f108 (fun _ h9 => h9) rfl dX1_move_23 ?_
      refine lv_bipush (v := nI 40) hx hb dX1_move_26 (by decide +kernel) ?_
      refine nk_icmp_ne (tgt := 35) hx hb (by omega) (by omega) dX1_move_28 (by decide) (fun c28 => ?_) (fun c28 => ?_)
      · refine lv_iconst (v := nI 0) hx hb dX1_move_35 (by decide +kernel) ?_
        refine va_put (D := D) (ci := 1) (v := .int (nI 0)) (ty := .int) (C := RX1) (T := TX1) (N := 16) hx hb hts hin tyX1 tyX1_ok nmX1 hown hK hP hD hS 0 rfl rfl 15 (by decide) f27 (fun _ h9 => h9) rfl (by decide +kernel) rfl rfl (Nat.le_of_ble_eq_true rfl) dX1_move_36 (fun H locs hP hD hS => ?_)
        have hP : va_P D vwCl (wM g0 g1 g2 g3 g4 cI cJ d r gb w rm lc k dr pn pa pi 0 ga e2 b rt) H := hP
        have hD : va_D A (wM g0 g1 g2 g3 g4 cI cJ d r gb w rm lc k dr pn pa pi 0 ga e2 b rt) := hD
        refine lv_aload_n hx hb dX1_move_39 rfl (lv_at hl 0 rfl) ?_
        refine va_get (D := D) (ci := 1) (v := .int (nI 0)) (C := RX1) (T := TX1) (N := 16) hx hb hts hin hown hK hP 0 rfl rfl 15 (by decide) f27 (fun _ h9 => h9) rfl dX1_move_40 ?_
        refine nk_if_le (tgt := 48) hx hb (by omega) dX1_move_43 (by decide) (fun c43 => ?_) (fun c43 => ?_)
        · refine lv_aload_n hx hb dX1_move_48 rfl (lv_at hl 0 rfl) ?_
          refine lv_iload_n hx hb dX1_move_49 rfl (lv_at hl 1 rfl) ?_
          refine va_put (D := D) (ci := 1) (v := .int (nI a9)) (ty := .int) (C := RX1) (T := TX1) (N := 16) hx hb hts hin tyX1 tyX1_ok nmX1 hown hK hP hD hS 0 rfl rfl 3 (by decide) f69 (fun _ h9 => h9) rfl (by decide +kernel) rfl rfl (Nat.le_of_ble_eq_true rfl) dX1_move_50 (fun H locs hP hD hS => ?_)
          have hP : va_P D vwCl (wM g0 g1 g2 g3 g4 cI cJ d r gb a9 rm lc k dr pn pa pi 0 ga e2 b rt) H := hP
          have hD : va_D A (wM g0 g1 g2 g3 g4 cI cJ d r gb a9 rm lc k dr pn pa pi 0 ga e2 b rt) := hD
          refine lv_aload_n hx hb dX1_move_53 rfl (lv_at hl 0 rfl) ?_
          refine lv_iload_n hx hb dX1_move_54 rfl (lv_at hl 1 rfl) ?_
          refine nk_rd (W.runV (As := [.int (nI a9)]) (rest := []) ⟨hx, hb, hml, hown, hts⟩ (c_X1_greatest l D g0 g1 g2 g3 g4 cI cJ d r gb a9 rm lc k dr pn pa pi 0 ga e2 b rt a9 (by omega) c19.2 hlc he2 hga hd) (cwV 1 hts gX1_move_X1_greatest rfl rfl rfl (by decide +kernel) ⟨Nat.le_of_ble_eq_true rfl, Nat.le_of_ble_eq_true rfl⟩) ⟨nk_Pr.blind, va_recv hK hP (ci := 1) (q0 := 0) rfl rfl, fun U hU hW => ⟨rfl, by rw [hU]; exact hP, va_K.moved hW.alike hK⟩⟩ rfl rfl hl.1 rfl (lv_room (Nat.le_of_ble_eq_true rfl)) dX1_move_55 ⟨Nat.zero_le _, Nat.zero_le _⟩) ?_
          refine W.eq (g2 := F0 m 58 ls [.int (nI (gL a9 (lstA ga e2 lc - 1 + d / 365)))]) rfl ?_
          have hg9 : gL a9 (lstA ga e2 lc - 1 + d / 365) ≤ 5500000 := gL_le (by omega)
          have hc9 : ceilA (sm b k) < 200000000000000 := by unfold ceilA; omega
          refine nk_i2l hx hb (by omega) dX1_move_58 ?_
          refine lv_lstore_n (lv' := [(2, .long (lN (gL a9 (lstA ga e2 lc - 1 + d / 365)))), (0, .ref g0), (1, .int (nI a9))]) hx hb dX1_move_59 rfl hl (by decide) rfl (fun ls hl => ?_)
          refine lv_aload_n hx hb dX1_move_60 rfl (lv_at hl 1 rfl) ?_
          refine nk_rd (W.runV (As := []) (rest := []) ⟨hx, hb, hml, hown, hts⟩ (c_X1_all l D g0 g1 g2 g3 g4 cI cJ d r gb a9 rm lc k dr pn pa pi 0 ga e2 b rt hk) (cwV 0 hts gX1_move_X1_all rfl rfl rfl (by decide +kernel) ⟨Nat.le_of_ble_eq_true rfl, Nat.le_of_ble_eq_true rfl⟩) ⟨nk_Pr.blind, va_recv hK hP (ci := 1) (q0 := 0) rfl rfl, fun U hU hW => ⟨rfl, by rw [hU]; exact hP, va_K.moved hW.alike hK⟩⟩ rfl rfl hl.1 rfl (lv_room (Nat.le_of_ble_eq_true rfl)) dX1_move_61 ⟨Nat.zero_le _, Nat.zero_le _⟩) ?_
          refine W.eq (g2 := F0 m 64 ls [.long (lN (sm b k))]) rfl ?_
          refine nk_rd (W.runS (As := [.long (lN (sm b k))]) (rest := []) ⟨hx, hb, hml, hown, hts⟩ (c_X1_up l (sm b k) (by omega)) (va_cwS 1 hts gX1_move_X1_up rfl rfl rfl (by decide +kernel) ⟨Nat.le_of_ble_eq_true rfl, Nat.le_of_ble_eq_true rfl⟩) ⟨nk_P0.blind, fun U hU hW => ⟨rfl, trivial⟩⟩ rfl rfl hl.1 rfl (lv_room (Nat.le_of_ble_eq_true rfl)) dX1_move_64 ⟨Nat.zero_le _, Nat.zero_le _⟩) ?_
          refine W.eq (g2 := F0 m 67 ls [.long (lN (ceilA (sm b k)))]) rfl ?_
          refine lv_lload_n hx hb dX1_move_67 rfl (lv_at hl 0 rfl) ?_
          refine lv_lsub hx hb dX1_move_68 ?_
          refine lv_lstore (lv' := [(4, .long ((lN (ceilA (sm b k))) - (lN (gL a9 (lstA ga e2 lc - 1 + d / 365))))), (2, .long (lN (gL a9 (lstA ga e2 lc - 1 + d / 365)))), (0, .ref g0), (1, .int (nI a9))]) hx hb dX1_move_69 hl (by decide) rfl (fun ls hl => ?_)
          refine lv_lload hx hb dX1_move_71 (lv_at hl 0 rfl) ?_
          refine lv_lconst (v := lN 0) hx hb dX1_move_73 (by decide +kernel) ?_
          refine nk_zlcmp_le (tgt := 94) hx hb (nk_subL (by omega) (by omega)) dX1_move_74 dX1_move_75 (by decide) (fun c74 => ?_) (fun c74 => ?_)
          · refine lv_aload_n hx hb dX1_move_94 rfl (lv_at hl 2 rfl) ?_
            refine lv_lload hx hb dX1_move_95 (lv_at hl 0 rfl) ?_
            refine lv_lconst (v := lN 0) hx hb dX1_move_97 (by decide +kernel) ?_
            refine nk_zlcmp_le (tgt := 106) hx hb (nk_subL (by omega) (by omega)) dX1_move_98 dX1_move_99 (by decide) (fun c98 => ?_) (fun c98 => ?_)
            · refine lv_lload hx hb dX1_move_106 (lv_at hl 0 rfl) ?_
              refine lv_lneg hx hb dX1_move_108 ?_
              refine nk_topl (y := (lN (gL a9 (lstA ga e2 lc - 1 + d / 365) - ceilA (sm b k)))) (nk_lneg0 (by omega) (by omega) (by omega)) ?_
              refine nk_l2i hx hb dX1_move_109 ?_
              refine va_put (D := D) (ci := 1) (v := .int (nI (gL a9 (lstA ga e2 lc - 1 + d / 365) - ceilA (sm b k)))) (ty := .int) (C := RX1) (T := TX1) (N := 16) hx hb hts hin tyX1 tyX1_ok nmX1 hown hK hP hD hS 0 rfl rfl 4 (by decide) f72 (fun _ h9 => h9) rfl (by decide +kernel) rfl rfl (Nat.le_of_ble_eq_true rfl) dX1_move_110 (fun H locs hP hD hS => ?_)
              have hP : va_P D vwCl (wM g0 g1 g2 g3 g4 cI cJ d r gb a9 (gL a9 (lstA ga e2 lc - 1 + d / 365) - ceilA (sm b k)) lc k dr pn pa pi 0 ga e2 b rt) H := hP
              have hD : va_D A (wM g0 g1 g2 g3 g4 cI cJ d r gb a9 (gL a9 (lstA ga e2 lc - 1 + d / 365) - ceilA (sm b k)) lc k dr pn pa pi 0 ga e2 b rt) := hD
              refine lv_lload hx hb dX1_move_113 (lv_at hl 0 rfl) ?_
              refine lv_lconst (v := lN 0) hx hb dX1_move_115 (by decide +kernel) ?_
              refine nk_zlcmp_le (tgt := 125) hx hb (nk_subL (by omega) (by omega)) dX1_move_116 dX1_move_117 (by decide) (fun c116 => ?_) (fun c116 => ?_)
              · refine lv_lconst (v := lN 0) hx hb dX1_move_125 (by decide +kernel) ?_
                exact W.lret (v := (lN 0)) hx hb hr (fun t ht hW => ⟨⟨(lN 0), wM g0 g1 g2 g3 g4 cI cJ d r gb a9 (gL a9 (lstA ga e2 lc - 1 + d / 365) - ceilA (sm b k)) lc k dr pn pa pi 0 ga e2 b rt, rfl, Or.inr (Or.inr ⟨by omega, ⟨c19, by omega⟩, by rw [show ceilA (sm b k) - gL a9 (lstA ga e2 lc - 1 + d / 365) = 0 by omega], Or.inl ⟨by omega, rfl⟩⟩), by rw [ht]; exact hP, va_K.moved hW.alike hK, hD⟩, hS.F ht⟩) hS.2.2 dX1_move_126
              · exfalso; omega
            · exfalso; omega
          · refine lv_aload_n hx hb dX1_move_78 rfl (lv_at hl 2 rfl) ?_
            refine lv_lload hx hb dX1_move_79 (lv_at hl 0 rfl) ?_
            refine nk_topl (y := (lN (ceilA (sm b k) - gL a9 (lstA ga e2 lc - 1 + d / 365)))) (lN_sub (by omega)) ?_
            refine nk_vcall (wr := []) (va_runV (As := [.long (lN (ceilA (sm b k) - gL a9 (lstA ga e2 lc - 1 + d / 365)))]) (rest := []) ⟨hx, hb, hml, hown, hts⟩ (c_X1_takes l D g0 g1 g2 g3 g4 cI cJ d r gb a9 rm lc k dr pn pa pi 0 ga e2 b rt H.size (ceilA (sm b k) - gL a9 (lstA ga e2 lc - 1 + d / 365)) hk (by omega) hb9) (cwV 1 hts gX1_move_X1_takes rfl rfl rfl (by decide +kernel) ⟨Nat.le_of_ble_eq_true rfl, Nat.le_of_ble_eq_true rfl⟩) ⟨nk_Pw.blind, va_recv hK hP (ci := 1) (q0 := 0) rfl rfl, fun U hU hW => ⟨rfl, by rw [hU], by rw [hU]; exact hP, va_K.moved hW.alike hK, hD.weaken (fun _ _ _ _ => trivial)⟩⟩ rfl rfl hl.1 rfl (lv_room (Nat.le_of_ble_eq_true rfl)) dX1_move_81 ⟨Nat.zero_le _, Nat.zero_le _⟩) hP hD hS hA [0, 1, 2, 3, 4] [] rfl rfl rfl (by decide) (fun w1 H locs hw hP hD hS hk9 => ?_)
            subst hw
            have hP : va_P D vwCl (wM g0 g1 g2 g3 g4 cI cJ d r gb a9 rm lc k dr pn pa pi 0 ga e2 (tkB b ((ceilA (sm b k) - gL a9 (lstA ga e2 lc - 1 + d / 365)) * 10000) k) rt) H := hP
            have hD : va_D A (wM g0 g1 g2 g3 g4 cI cJ d r gb a9 rm lc k dr pn pa pi 0 ga e2 (tkB b ((ceilA (sm b k) - gL a9 (lstA ga e2 lc - 1 + d / 365)) * 10000) k) rt) := hD
            refine lv_aload_n hx hb dX1_move_84 rfl (lv_at hl 2 rfl) ?_
            refine lv_dup hx hb dX1_move_85 rfl ?_
            refine va_get (D := D) (ci := 1) (v := .int (nI pn)) (C := RX1) (T := TX1) (N := 16) hx hb hts hin hown hK hP 0 rfl rfl 12 (by decide) f108 (fun _ h9 => h9) rfl dX1_move_86 ?_
            refine lv_iconst (v := nI 1) hx hb dX1_move_89 (by decide +kernel) ?_
            refine nk_iadd hx hb dX1_move_90 ?_
            refine va_put (D := D) (ci := 1) (v := .int (nI (pn + 1))) (ty := .int) (C := RX1) (T := TX1) (N := 16) hx hb hts hin tyX1 tyX1_ok nmX1 hown hK hP hD hS 0 rfl rfl 12 (by decide) f108 (fun _ h9 => h9) rfl (by decide +kernel) rfl rfl (Nat.le_of_ble_eq_true rfl) dX1_move_91 (fun H locs hP hD hS => ?_)
            have hP : va_P D vwCl (wM g0 g1 g2 g3 g4 cI cJ d r gb a9 rm lc k dr (pn + 1) pa pi 0 ga e2 (tkB b ((ceilA (sm b k) - gL a9 (lstA ga e2 lc - 1 + d / 365)) * 10000) k) rt) H := hP
            have hD : va_D A (wM g0 g1 g2 g3 g4 cI cJ d r gb a9 rm lc k dr (pn + 1) pa pi 0 ga e2 (tkB b ((ceilA (sm b k) - gL a9 (lstA ga e2 lc - 1 + d / 365)) * 10000) k) rt) := hD
            refine lv_aload_n hx hb dX1_move_94 rfl (lv_at hl 2 rfl) ?_
            refine lv_lload hx hb dX1_move_95 (lv_at hl 0 rfl) ?_
            refine lv_lconst (v := lN 0) hx hb dX1_move_97 (by decide +kernel) ?_
            refine nk_zlcmp_le (tgt := 106) hx hb (nk_subL (by omega) (by omega)) dX1_move_98 dX1_move_99 (by decide) (fun c98 => ?_) (fun c98 => ?_)
            · exfalso; omega
            · refine lv_iconst (v := nI 0) hx hb dX1_move_102 (by decide +kernel) ?_
              refine lv_goto (tgt := 110) hx hb dX1_move_103 (by decide) ?_
              refine va_put (D := D) (ci := 1) (v := .int (nI 0)) (ty := .int) (C := RX1) (T := TX1) (N := 16) hx hb hts hin tyX1 tyX1_ok nmX1 hown hK hP hD hS 0 rfl rfl 4 (by decide) f72 (fun _ h9 => h9) rfl (by decide +kernel) rfl rfl (Nat.le_of_ble_eq_true rfl) dX1_move_110 (fun H locs hP hD hS => ?_)
              have hP : va_P D vwCl (wM g0 g1 g2 g3 g4 cI cJ d r gb a9 0 lc k dr (pn + 1) pa pi 0 ga e2 (tkB b ((ceilA (sm b k) - gL a9 (lstA ga e2 lc - 1 + d / 365)) * 10000) k) rt) H := hP
              have hD : va_D A (wM g0 g1 g2 g3 g4 cI cJ d r gb a9 0 lc k dr (pn + 1) pa pi 0 ga e2 (tkB b ((ceilA (sm b k) - gL a9 (lstA ga e2 lc - 1 + d / 365)) * 10000) k) rt) := hD
              refine lv_lload hx hb dX1_move_113 (lv_at hl 0 rfl) ?_
              refine lv_lconst (v := lN 0) hx hb dX1_move_115 (by decide +kernel) ?_
              refine nk_zlcmp_le (tgt := 125) hx hb (nk_subL (by omega) (by omega)) dX1_move_116 dX1_move_117 (by decide) (fun c116 => ?_) (fun c116 => ?_)
              · exfalso; omega
              · refine lv_lload hx hb dX1_move_120 (lv_at hl 0 rfl) ?_
                refine nk_topl (y := (lN (ceilA (sm b k) - gL a9 (lstA ga e2 lc - 1 + d / 365)))) (lN_sub (by omega)) ?_
                refine lv_goto (tgt := 126) hx hb dX1_move_122 (by decide) ?_
                exact W.lret (v := (lN (ceilA (sm b k) - gL a9 (lstA ga e2 lc - 1 + d / 365)))) hx hb hr (fun t ht hW => ⟨⟨(lN (ceilA (sm b k) - gL a9 (lstA ga e2 lc - 1 + d / 365))), wM g0 g1 g2 g3 g4 cI cJ d r gb a9 0 lc k dr (pn + 1) pa pi 0 ga e2 (tkB b ((ceilA (sm b k) - gL a9 (lstA ga e2 lc - 1 + d / 365)) * 10000) k) rt, rfl, Or.inr (Or.inr ⟨by omega, ⟨c19, by omega⟩, rfl, Or.inr ⟨by omega, rfl⟩⟩), by rw [ht]; exact hP, va_K.moved hW.alike hK, hD⟩, hS.F ht⟩) hS.2.2 dX1_move_126
        · exfalso; omega
      · refine lv_iconst (v := nI 2) hx hb dX1_move_31 (by decide +kernel) ?_
        refine lv_goto (tgt := 36) hx hb dX1_move_32 (by decide) ?_
        refine va_put (D := D) (ci := 1) (v := .int (nI 2)) (ty := .int) (C := RX1) (T := TX1) (N := 16) hx hb hts hin tyX1 tyX1_ok nmX1 hown hK hP hD hS 0 rfl rfl 15 (by decide) f27 (fun _ h9 => h9) rfl (by decide +kernel) rfl rfl (Nat.le_of_ble_eq_true rfl) dX1_move_36 (fun H locs hP hD hS => ?_)
        have hP : va_P D vwCl (wM g0 g1 g2 g3 g4 cI cJ d r gb w rm lc k dr pn pa pi 2 ga e2 b rt) H := hP
        have hD : va_D A (wM g0 g1 g2 g3 g4 cI cJ d r gb w rm lc k dr pn pa pi 2 ga e2 b rt) := hD
        refine lv_aload_n hx hb dX1_move_39 rfl (lv_at hl 0 rfl) ?_
        refine va_get (D := D) (ci := 1) (v := .int (nI 2)) (C := RX1) (T := TX1) (N := 16) hx hb hts hin hown hK hP 0 rfl rfl 15 (by decide) f27 (fun _ h9 => h9) rfl dX1_move_40 ?_
        refine nk_if_le (tgt := 48) hx hb (by omega) dX1_move_43 (by decide) (fun c43 => ?_) (fun c43 => ?_)
        · exfalso; omega
        · refine lv_lconst (v := lN 0) hx hb dX1_move_46 (by decide +kernel) ?_
          exact W.lret (v := (lN 0)) hx hb hr (fun t ht hW => ⟨⟨(lN 0), wM g0 g1 g2 g3 g4 cI cJ d r gb w rm lc k dr pn pa pi 2 ga e2 b rt, rfl, Or.inr (Or.inl ⟨by omega, by omega, rfl⟩), by rw [ht]; exact hP, va_K.moved hW.alike hK, hD⟩, hS.F ht⟩) hS.2.2 dX1_move_47
  · refine lv_iconst (v := nI 1) hx hb dX1_move_11 (by decide +kernel) ?_
    refine lv_goto (tgt := 36) hx hb dX1_move_12 (by decide) ?_
    refine va_put (D := D) (ci := 1) (v := .int (nI 1)) (ty := .int) (C := RX1) (T := TX1) (N := 16) hx hb hts hin tyX1 tyX1_ok nmX1 hown hK hP hD hS 0 rfl rfl 15 (by decide) f27 (fun _ h9 => h9) rfl (by decide +kernel) rfl rfl (Nat.le_of_ble_eq_true rfl) dX1_move_36 (fun H locs hP hD hS => ?_)
    have hP : va_P D vwCl (wM g0 g1 g2 g3 g4 cI cJ d r gb w rm lc k dr pn pa pi 1 ga e2 b rt) H := hP
    have hD : va_D A (wM g0 g1 g2 g3 g4 cI cJ d r gb w rm lc k dr pn pa pi 1 ga e2 b rt) := hD
    refine lv_aload_n hx hb dX1_move_39 rfl (lv_at hl 0 rfl) ?_
    refine va_get (D := D) (ci := 1) (v := .int (nI 1)) (C := RX1) (T := TX1) (N := 16) hx hb hts hin hown hK hP 0 rfl rfl 15 (by decide) f27 (fun _ h9 => h9) rfl dX1_move_40 ?_
    refine nk_if_le (tgt := 48) hx hb (by omega) dX1_move_43 (by decide) (fun c43 => ?_) (fun c43 => ?_)
    · exfalso; omega
    · refine lv_lconst (v := lN 0) hx hb dX1_move_46 (by decide +kernel) ?_
      exact W.lret (v := (lN 0)) hx hb hr (fun t ht hW => ⟨⟨(lN 0), wM g0 g1 g2 g3 g4 cI cJ d r gb w rm lc k dr pn pa pi 1 ga e2 b rt, rfl, Or.inl ⟨by omega, rfl⟩, by rw [ht]; exact hP, va_K.moved hW.alike hK, hD⟩, hS.F ht⟩) hS.2.2 dX1_move_47
set_option maxHeartbeats 4000000 in
set_option maxRecDepth 100000 in
theorem c_X1_balance (l : Launch) (D : va_G) (g0 g1 g2 g3 g4 : Nat) (cI cJ : ClassId) (d r gb w rm lc k dr pn pa pi th : Nat) (ga e2 b rt : Nat → Nat) (sz : Nat) (p0 : Int32) (z : Int) (a9 : Nat)  (hz : p0.toInt = z) (hpa : 0 ≤ z → p0 = nI a9 ∧ a9 < 2147483648) (hk : k ≤ 20) (hb9 : ∀ j, j < k → b j < 4611686018427387904) : Met l yX1_balance wsX1_balance { frames := 1, cells := 0, slots := 0, locals := 22 } (nk_Pw D (wM g0 g1 g2 g3 g4 cI cJ d r gb w rm lc k dr pn pa pi th ga e2 b rt) (tX cI cJ) sz [.ref g0, .int p0]) (va_Ql (fun r9 w1 => (¬ (0 ≤ z ∧ z < (k : Int)) ∧ w1 = wM g0 g1 g2 g3 g4 cI cJ d r gb w rm lc k dr pn pa pi 1 ga e2 b rt) ∨ ((0 ≤ z ∧ z < (k : Int)) ∧ r9 = lN (ceilA (b a9)) ∧ w1 = wM g0 g1 g2 g3 g4 cI cJ d r gb w rm lc k dr pn pa pi 0 ga e2 b rt)) (fun w1 t => nk_At D (tX cI cJ) (va_A (wM g0 g1 g2 g3 g4 cI cJ d r gb w rm lc k dr pn pa pi th ga e2 b rt) sz) w1 t) (va_A (wM g0 g1 g2 g3 g4 cI cJ d r gb w rm lc k dr pn pa pi th ga e2 b rt) sz)) 0 0 (va_A (wM g0 g1 g2 g3 g4 cI cJ d r gb w rm lc k dr pn pa pi th ga e2 b rt) sz) := by
  refine Met.ofW (cc := cX1_balance) (maxL := 2) (ret := (some .long)) (by decide) rfl ?_
  intro p e s m args below meth c s₁ B hml hv
  obtain ⟨hargs, hsz, hP, hK, hD0⟩ := hv
  have hx := B.exec
  have hb := B.bytes
  have hr := B.returns
  have hts := atoms_spec (ws := wsX1_balance) B.pre
  have hown : s.vm.findClass RX1 = some m.cls := findClass_of_methodNamed B.named
  have hlocks := B.notSynchronized
  subst hsz
  have hin : ∀ w ∈ wsX10, w ∈ wsX1_balance := by decide +kernel
  have hD := hD0.self (sz := s.heap.size)
  generalize hAe : va_A (wM g0 g1 g2 g3 g4 cI cJ d r gb w rm lc k dr pn pa pi th ga e2 b rt) s.heap.size = A at hD ⊢
  have hA : ∀ q : Nat, s.heap.size ≤ q → A q := fun q h => by rw [← hAe]; exact Or.inr h
  have hS : va_S A s.heap s.heap [] := va_S.rf
  have f48 := hts (.fieldLink RX1 48 "EquityReleaseModel" "drawings" "I") (by decide +kernel)
  have f27 := hts (.fieldLink RX1 27 "EquityReleaseModel" "thrown" "I") (by decide +kernel)
  have f20 := hts (.fieldLink RX1 20 "EquityReleaseModel" "balances" "[J") (by decide +kernel)
  have hl := lv_entry ([.ref g0, .int p0]) (n := 2) (Nat.le_of_ble_eq_true rfl)
  have hEe : entryFrame m args 2 = entryFrame m ([.ref g0, .int p0] : List Value).toArray 2 := by rw [hargs]
  rw [hEe, lg_entry_eq]
  generalize (lg_sl ([.ref g0, .int p0]) ++ List.replicate (2 - (lg_sl ([.ref g0, .int p0])).length) Slot.unset).toArray = ls at hl ⊢
  have hl : lv_has ls 2 [(0, .ref g0), (1, .int p0)] := hl
  refine lv_aload_n hx hb dX1_balance_0 rfl (lv_at hl 0 rfl) ?_
  refine lv_iload_n hx hb dX1_balance_1 rfl (lv_at hl 1 rfl) ?_
  refine lv_iconst (v := nI 0) hx hb dX1_balance_2 (by decide +kernel) ?_
  refine lv_aload_n hx hb dX1_balance_3 rfl (lv_at hl 0 rfl) ?_
  refine va_get (D := D) (ci := 1) (v := .int (nI k)) (C := RX1) (T := TX1) (N := 16) hx hb hts hin hown hK hP 0 rfl rfl 8 (by decide) f48 (fun _ h9 => h9) rfl dX1_balance_4 ?_
  refine lv_iconst (v := nI 1) hx hb dX1_balance_7 (by decide +kernel) ?_
  refine lv_isub hx hb dX1_balance_8 ?_
  refine nk_rd (W.runS (As := [.int p0, .int (nI 0), .int ((nI k) - (nI 1))]) (rest := [.ref g0]) ⟨hx, hb, hml, hown, hts⟩ (c_X1_in l p0 (nI 0) ((nI k) - (nI 1)) z ((0 : Nat) : Int) (((k : Nat) : Int) - ((1 : Nat) : Int)) hz (nI_toInt (by omega)) (nk_subI (by omega) (by omega))) (va_cwS 3 hts gX1_balance_X1_in rfl rfl rfl (by decide +kernel) ⟨Nat.le_of_ble_eq_true rfl, Nat.le_of_ble_eq_true rfl⟩) ⟨nk_P0.blind, fun U hU hW => ⟨rfl, trivial⟩⟩ rfl rfl hl.1 rfl (lv_room (Nat.le_of_ble_eq_true rfl)) dX1_balance_9 ⟨Nat.zero_le _, Nat.zero_le _⟩) ?_
  refine W.eq (g2 := F0 m 12 ls [.int (nI (if ((0 : Nat) : Int) ≤ z ∧ z ≤ (((k : Nat) : Int) - ((1 : Nat) : Int)) then 1 else 0)), .ref g0]) rfl ?_
  refine nk_bif_eq (tgt := 19) hx hb dX1_balance_12 (by decide) (fun c12 => ?_) (fun c12 => ?_)
  · refine lv_iconst (v := nI 1) hx hb dX1_balance_19 (by decide +kernel) ?_
    refine va_put (D := D) (ci := 1) (v := .int (nI 1)) (ty := .int) (C := RX1) (T := TX1) (N := 16) hx hb hts hin tyX1 tyX1_ok nmX1 hown hK hP hD hS 0 rfl rfl 15 (by decide) f27 (fun _ h9 => h9) rfl (by decide +kernel) rfl rfl (Nat.le_of_ble_eq_true rfl) dX1_balance_20 (fun H locs hP hD hS => ?_)
    have hP : va_P D vwCl (wM g0 g1 g2 g3 g4 cI cJ d r gb w rm lc k dr pn pa pi 1 ga e2 b rt) H := hP
    have hD : va_D A (wM g0 g1 g2 g3 g4 cI cJ d r gb w rm lc k dr pn pa pi 1 ga e2 b rt) := hD
    refine lv_aload_n hx hb dX1_balance_23 rfl (lv_at hl 0 rfl) ?_
    refine va_get (D := D) (ci := 1) (v := .int (nI 1)) (C := RX1) (T := TX1) (N := 16) hx hb hts hin hown hK hP 0 rfl rfl 15 (by decide) f27 (fun _ h9 => h9) rfl dX1_balance_24 ?_
    refine nk_if_ne (tgt := 42) hx hb (by omega) dX1_balance_27 (by decide) (fun c27 => ?_) (fun c27 => ?_)
    · refine lv_lconst (v := lN 0) hx hb dX1_balance_42 (by decide +kernel) ?_
      exact W.lret (v := (lN 0)) hx hb hr (fun t ht hW => ⟨⟨(lN 0), wM g0 g1 g2 g3 g4 cI cJ d r gb w rm lc k dr pn pa pi 1 ga e2 b rt, rfl, Or.inl ⟨by omega, rfl⟩, by rw [ht]; exact hP, va_K.moved hW.alike hK, hD⟩, hS.F ht⟩) hS.2.2 dX1_balance_43
    · exfalso; omega
  · refine lv_iconst (v := nI 0) hx hb dX1_balance_15 (by decide +kernel) ?_
    refine lv_goto (tgt := 20) hx hb dX1_balance_16 (by decide) ?_
    refine va_put (D := D) (ci := 1) (v := .int (nI 0)) (ty := .int) (C := RX1) (T := TX1) (N := 16) hx hb hts hin tyX1 tyX1_ok nmX1 hown hK hP hD hS 0 rfl rfl 15 (by decide) f27 (fun _ h9 => h9) rfl (by decide +kernel) rfl rfl (Nat.le_of_ble_eq_true rfl) dX1_balance_20 (fun H locs hP hD hS => ?_)
    have hP : va_P D vwCl (wM g0 g1 g2 g3 g4 cI cJ d r gb w rm lc k dr pn pa pi 0 ga e2 b rt) H := hP
    have hD : va_D A (wM g0 g1 g2 g3 g4 cI cJ d r gb w rm lc k dr pn pa pi 0 ga e2 b rt) := hD
    refine lv_aload_n hx hb dX1_balance_23 rfl (lv_at hl 0 rfl) ?_
    refine va_get (D := D) (ci := 1) (v := .int (nI 0)) (C := RX1) (T := TX1) (N := 16) hx hb hts hin hown hK hP 0 rfl rfl 15 (by decide) f27 (fun _ h9 => h9) rfl dX1_balance_24 ?_
    refine nk_if_ne (tgt := 42) hx hb (by omega) dX1_balance_27 (by decide) (fun c27 => ?_) (fun c27 => ?_)
    · exfalso; omega
    · obtain ⟨rfl, ha9⟩ := hpa (by omega)
      have za : z = (a9 : Int) := by rw [← hz]; exact nI_toInt (by omega)
      refine lv_aload_n hx hb dX1_balance_30 rfl (lv_at hl 0 rfl) ?_
      refine va_get (D := D) (ci := 1) (v := .ref g3) (C := RX1) (T := TX1) (N := 16) hx hb hts hin hown hK hP 0 rfl rfl 9 (by decide) f20 (fun _ h9 => h9) rfl dX1_balance_31 ?_
      refine lv_iload_n hx hb dX1_balance_34 rfl (lv_at hl 1 rfl) ?_
      refine nk_lald hx hb hK hP 3 1 rfl rfl (by omega) (by decide) dX1_balance_35 ?_
      refine nk_rd (W.runS (As := [.long (lN (b a9))]) (rest := []) ⟨hx, hb, hml, hown, hts⟩ (c_X1_up l (b a9) (hb9 a9 (by omega))) (va_cwS 1 hts gX1_balance_X1_up rfl rfl rfl (by decide +kernel) ⟨Nat.le_of_ble_eq_true rfl, Nat.le_of_ble_eq_true rfl⟩) ⟨nk_P0.blind, fun U hU hW => ⟨rfl, trivial⟩⟩ rfl rfl hl.1 rfl (lv_room (Nat.le_of_ble_eq_true rfl)) dX1_balance_36 ⟨Nat.zero_le _, Nat.zero_le _⟩) ?_
      refine W.eq (g2 := F0 m 39 ls [.long (lN (ceilA (b a9)))]) rfl ?_
      refine lv_goto (tgt := 43) hx hb dX1_balance_39 (by decide) ?_
      exact W.lret (v := (lN (ceilA (b a9)))) hx hb hr (fun t ht hW => ⟨⟨(lN (ceilA (b a9))), wM g0 g1 g2 g3 g4 cI cJ d r gb w rm lc k dr pn pa pi 0 ga e2 b rt, rfl, Or.inr ⟨by omega, rfl, rfl⟩, by rw [ht]; exact hP, va_K.moved hW.alike hK, hD⟩, hS.F ht⟩) hS.2.2 dX1_balance_43
set_option maxHeartbeats 4000000 in
set_option maxRecDepth 100000 in
theorem c_X1_charge (l : Launch) (D : va_G) (g0 g1 g2 g3 g4 : Nat) (cI cJ : ClassId) (d r gb w rm lc k dr pn pa pi th : Nat) (ga e2 b rt : Nat → Nat) (sz : Nat) (p0 : Int32) (z : Int) (a9 : Nat)  (hz : p0.toInt = z) (hpa : 0 ≤ z → p0 = nI a9 ∧ a9 < 2147483648) (hgb2 : gb ≤ 15001) (hlc : lc ≤ 2) (he2 : ∀ j, j < lc → e2 j ≤ 15001) (he2d : ∀ j, j < lc → e2 j ≤ d + 1) (hgb : gb ≤ d + 1) (hd : d ≤ 15000) (hpi : pi ≤ 15000) (hdr : dr ≤ 1000000000) (hpa1 : pa ≤ 1000000000) : Met l yX1_charge wsX1_charge { frames := 3, cells := 0, slots := 0, locals := 66 } (nk_Pw D (wM g0 g1 g2 g3 g4 cI cJ d r gb w rm lc k dr pn pa pi th ga e2 b rt) (tX cI cJ) sz [.ref g0, .int p0]) (va_Qi (fun r9 w1 => (¬ (1 ≤ z ∧ z ≤ 10000000) ∧ w1 = wM g0 g1 g2 g3 g4 cI cJ d r gb w rm lc k dr pn pa pi 1 ga e2 b rt) ∨ ((1 ≤ z ∧ z ≤ 10000000) ∧ ¬ (0 < gb ∧ 0 < alive e2 lc) ∧ w1 = wM g0 g1 g2 g3 g4 cI cJ d r gb w rm lc k dr pn pa pi 2 ga e2 b rt) ∨ ((1 ≤ z ∧ z ≤ 10000000) ∧ (0 < gb ∧ 0 < alive e2 lc) ∧ r9 = nI (chg (mxE e2 lc) d ((d + 1 - gb) / 365) dr (if pi = (d + 1 - gb) / 365 then pa else 0) a9) ∧ w1 = wM g0 g1 g2 g3 g4 cI cJ d r gb w rm lc k dr pn pa pi 0 ga e2 b rt)) (fun w1 t => nk_At D (tX cI cJ) (va_A (wM g0 g1 g2 g3 g4 cI cJ d r gb w rm lc k dr pn pa pi th ga e2 b rt) sz) w1 t) (va_A (wM g0 g1 g2 g3 g4 cI cJ d r gb w rm lc k dr pn pa pi th ga e2 b rt) sz)) 0 0 (va_A (wM g0 g1 g2 g3 g4 cI cJ d r gb w rm lc k dr pn pa pi th ga e2 b rt) sz) := by
  refine Met.ofW (cc := cX1_charge) (maxL := 2) (ret := (some .int)) (by decide) rfl ?_
  intro p e s m args below meth c s₁ B hml hv
  obtain ⟨hargs, hsz, hP, hK, hD0⟩ := hv
  have hx := B.exec
  have hb := B.bytes
  have hr := B.returns
  have hts := atoms_spec (ws := wsX1_charge) B.pre
  have hown : s.vm.findClass RX1 = some m.cls := findClass_of_methodNamed B.named
  have hlocks := B.notSynchronized
  subst hsz
  have hin : ∀ w ∈ wsX10, w ∈ wsX1_charge := by decide +kernel
  have hD := hD0.self (sz := s.heap.size)
  generalize hAe : va_A (wM g0 g1 g2 g3 g4 cI cJ d r gb w rm lc k dr pn pa pi th ga e2 b rt) s.heap.size = A at hD ⊢
  have hA : ∀ q : Nat, s.heap.size ≤ q → A q := fun q h => by rw [← hAe]; exact Or.inr h
  have hS : va_S A s.heap s.heap [] := va_S.rf
  have k57 : (Cond.constant RX1 57 (nI 10000000)).before args s = true := by
    rw [show (nI 10000000 : Int32) = 10000000 from by decide +kernel]
    exact hts (.constant RX1 57 (10000000)) (by decide +kernel)
  have f27 := hts (.fieldLink RX1 27 "EquityReleaseModel" "thrown" "I") (by decide +kernel)
  have hl := lv_entry ([.ref g0, .int p0]) (n := 2) (Nat.le_of_ble_eq_true rfl)
  have hEe : entryFrame m args 2 = entryFrame m ([.ref g0, .int p0] : List Value).toArray 2 := by rw [hargs]
  rw [hEe, lg_entry_eq]
  generalize (lg_sl ([.ref g0, .int p0]) ++ List.replicate (2 - (lg_sl ([.ref g0, .int p0])).length) Slot.unset).toArray = ls at hl ⊢
  have hl : lv_has ls 2 [(0, .ref g0), (1, .int p0)] := hl
  refine lv_aload_n hx hb dX1_charge_0 rfl (lv_at hl 0 rfl) ?_
  refine lv_iload_n hx hb dX1_charge_1 rfl (lv_at hl 1 rfl) ?_
  refine lv_iconst (v := nI 1) hx hb dX1_charge_2 (by decide +kernel) ?_
  refine lv_ldc (v := nI 10000000) hx hb hown k57 dX1_charge_3 ?_
  refine nk_rd (W.runS (As := [.int p0, .int (nI 1), .int (nI 10000000)]) (rest := [.ref g0]) ⟨hx, hb, hml, hown, hts⟩ (c_X1_in l p0 (nI 1) (nI 10000000) z ((1 : Nat) : Int) ((10000000 : Nat) : Int) hz (nI_toInt (by omega)) (nI_toInt (by omega))) (va_cwS 3 hts gX1_charge_X1_in rfl rfl rfl (by decide +kernel) ⟨Nat.le_of_ble_eq_true rfl, Nat.le_of_ble_eq_true rfl⟩) ⟨nk_P0.blind, fun U hU hW => ⟨rfl, trivial⟩⟩ rfl rfl hl.1 rfl (lv_room (Nat.le_of_ble_eq_true rfl)) dX1_charge_5 ⟨Nat.zero_le _, Nat.zero_le _⟩) ?_
  refine W.eq (g2 := F0 m 8 ls [.int (nI (if ((1 : Nat) : Int) ≤ z ∧ z ≤ ((10000000 : Nat) : Int) then 1 else 0)), .ref g0]) rfl ?_
  refine nk_bif_ne (tgt := 15) hx hb dX1_charge_8 (by decide) (fun c8 => ?_) (fun c8 => ?_)
  · obtain ⟨rfl, ha9⟩ := hpa (by omega)
    have za : z = (a9 : Int) := by rw [← hz]; exact nI_toInt (by omega)
    refine lv_aload_n hx hb dX1_charge_15 rfl (lv_at hl 0 rfl) ?_
    refine nk_rd (W.runV (As := []) (rest := [.ref g0]) ⟨hx, hb, hml, hown, hts⟩ (c_X1_isOn l D g0 g1 g2 g3 g4 cI cJ d r gb w rm lc k dr pn pa pi th ga e2 b rt (by omega) hlc he2) (cwV 0 hts gX1_charge_X1_isOn rfl rfl rfl (by decide +kernel) ⟨Nat.le_of_ble_eq_true rfl, Nat.le_of_ble_eq_true rfl⟩) ⟨nk_Pr.blind, va_recv hK hP (ci := 1) (q0 := 0) rfl rfl, fun U hU hW => ⟨rfl, by rw [hU]; exact hP, va_K.moved hW.alike hK⟩⟩ rfl rfl hl.1 rfl (lv_room (Nat.le_of_ble_eq_true rfl)) dX1_charge_16 ⟨Nat.zero_le _, Nat.zero_le _⟩) ?_
    refine W.eq (g2 := F0 m 19 ls [.int (nI (if 0 < gb ∧ 0 < alive e2 lc then 1 else 0)), .ref g0]) rfl ?_
    refine nk_bif_ne (tgt := 26) hx hb dX1_charge_19 (by decide) (fun c19 => ?_) (fun c19 => ?_)
    · refine lv_iconst (v := nI 0) hx hb dX1_charge_26 (by decide +kernel) ?_
      refine va_put (D := D) (ci := 1) (v := .int (nI 0)) (ty := .int) (C := RX1) (T := TX1) (N := 16) hx hb hts hin tyX1 tyX1_ok nmX1 hown hK hP hD hS 0 rfl rfl 15 (by decide) f27 (fun _ h9 => h9) rfl (by decide +kernel) rfl rfl (Nat.le_of_ble_eq_true rfl) dX1_charge_27 (fun H locs hP hD hS => ?_)
      have hP : va_P D vwCl (wM g0 g1 g2 g3 g4 cI cJ d r gb w rm lc k dr pn pa pi 0 ga e2 b rt) H := hP
      have hD : va_D A (wM g0 g1 g2 g3 g4 cI cJ d r gb w rm lc k dr pn pa pi 0 ga e2 b rt) := hD
      refine lv_aload_n hx hb dX1_charge_30 rfl (lv_at hl 0 rfl) ?_
      refine va_get (D := D) (ci := 1) (v := .int (nI 0)) (C := RX1) (T := TX1) (N := 16) hx hb hts hin hown hK hP 0 rfl rfl 15 (by decide) f27 (fun _ h9 => h9) rfl dX1_charge_31 ?_
      refine nk_if_ne (tgt := 45) hx hb (by omega) dX1_charge_34 (by decide) (fun c34 => ?_) (fun c34 => ?_)
      · exfalso; omega
      · refine lv_aload_n hx hb dX1_charge_37 rfl (lv_at hl 0 rfl) ?_
        refine lv_iload_n hx hb dX1_charge_38 rfl (lv_at hl 1 rfl) ?_
        refine nk_rd (W.runV (As := [.int (nI a9)]) (rest := []) ⟨hx, hb, hml, hown, hts⟩ (c_X1_chargeFor l D g0 g1 g2 g3 g4 cI cJ d r gb w rm lc k dr pn pa pi 0 ga e2 b rt a9 (by omega) hlc he2 he2d hgb hd hpi hdr hpa1) (cwV 1 hts gX1_charge_X1_chargeFor rfl rfl rfl (by decide +kernel) ⟨Nat.le_of_ble_eq_true rfl, Nat.le_of_ble_eq_true rfl⟩) ⟨nk_Pr.blind, va_recv hK hP (ci := 1) (q0 := 0) rfl rfl, fun U hU hW => ⟨rfl, by rw [hU]; exact hP, va_K.moved hW.alike hK⟩⟩ rfl rfl hl.1 rfl (lv_room (Nat.le_of_ble_eq_true rfl)) dX1_charge_39 ⟨Nat.zero_le _, Nat.zero_le _⟩) ?_
        refine W.eq (g2 := F0 m 42 ls [.int (nI (chg (mxE e2 lc) d ((d + 1 - gb) / 365) dr (if pi = (d + 1 - gb) / 365 then pa else 0) a9))]) rfl ?_
        refine lv_goto (tgt := 46) hx hb dX1_charge_42 (by decide) ?_
        exact W.iret (v := (nI (chg (mxE e2 lc) d ((d + 1 - gb) / 365) dr (if pi = (d + 1 - gb) / 365 then pa else 0) a9))) hx hb hr (fun t ht hW => ⟨⟨(nI (chg (mxE e2 lc) d ((d + 1 - gb) / 365) dr (if pi = (d + 1 - gb) / 365 then pa else 0) a9)), wM g0 g1 g2 g3 g4 cI cJ d r gb w rm lc k dr pn pa pi 0 ga e2 b rt, rfl, Or.inr (Or.inr ⟨by omega, c19, rfl, rfl⟩), by rw [ht]; exact hP, va_K.moved hW.alike hK, hD⟩, hS.F ht⟩) hS.2.2 dX1_charge_46
    · refine lv_iconst (v := nI 2) hx hb dX1_charge_22 (by decide +kernel) ?_
      refine lv_goto (tgt := 27) hx hb dX1_charge_23 (by decide) ?_
      refine va_put (D := D) (ci := 1) (v := .int (nI 2)) (ty := .int) (C := RX1) (T := TX1) (N := 16) hx hb hts hin tyX1 tyX1_ok nmX1 hown hK hP hD hS 0 rfl rfl 15 (by decide) f27 (fun _ h9 => h9) rfl (by decide +kernel) rfl rfl (Nat.le_of_ble_eq_true rfl) dX1_charge_27 (fun H locs hP hD hS => ?_)
      have hP : va_P D vwCl (wM g0 g1 g2 g3 g4 cI cJ d r gb w rm lc k dr pn pa pi 2 ga e2 b rt) H := hP
      have hD : va_D A (wM g0 g1 g2 g3 g4 cI cJ d r gb w rm lc k dr pn pa pi 2 ga e2 b rt) := hD
      refine lv_aload_n hx hb dX1_charge_30 rfl (lv_at hl 0 rfl) ?_
      refine va_get (D := D) (ci := 1) (v := .int (nI 2)) (C := RX1) (T := TX1) (N := 16) hx hb hts hin hown hK hP 0 rfl rfl 15 (by decide) f27 (fun _ h9 => h9) rfl dX1_charge_31 ?_
      refine nk_if_ne (tgt := 45) hx hb (by omega) dX1_charge_34 (by decide) (fun c34 => ?_) (fun c34 => ?_)
      · refine lv_iconst (v := nI 0) hx hb dX1_charge_45 (by decide +kernel) ?_
        exact W.iret (v := (nI 0)) hx hb hr (fun t ht hW => ⟨⟨(nI 0), wM g0 g1 g2 g3 g4 cI cJ d r gb w rm lc k dr pn pa pi 2 ga e2 b rt, rfl, Or.inr (Or.inl ⟨by omega, by omega, rfl⟩), by rw [ht]; exact hP, va_K.moved hW.alike hK, hD⟩, hS.F ht⟩) hS.2.2 dX1_charge_46
      · exfalso; omega
  · refine lv_iconst (v := nI 1) hx hb dX1_charge_11 (by decide +kernel) ?_
    refine lv_goto (tgt := 27) hx hb dX1_charge_12 (by decide) ?_
    refine va_put (D := D) (ci := 1) (v := .int (nI 1)) (ty := .int) (C := RX1) (T := TX1) (N := 16) hx hb hts hin tyX1 tyX1_ok nmX1 hown hK hP hD hS 0 rfl rfl 15 (by decide) f27 (fun _ h9 => h9) rfl (by decide +kernel) rfl rfl (Nat.le_of_ble_eq_true rfl) dX1_charge_27 (fun H locs hP hD hS => ?_)
    have hP : va_P D vwCl (wM g0 g1 g2 g3 g4 cI cJ d r gb w rm lc k dr pn pa pi 1 ga e2 b rt) H := hP
    have hD : va_D A (wM g0 g1 g2 g3 g4 cI cJ d r gb w rm lc k dr pn pa pi 1 ga e2 b rt) := hD
    refine lv_aload_n hx hb dX1_charge_30 rfl (lv_at hl 0 rfl) ?_
    refine va_get (D := D) (ci := 1) (v := .int (nI 1)) (C := RX1) (T := TX1) (N := 16) hx hb hts hin hown hK hP 0 rfl rfl 15 (by decide) f27 (fun _ h9 => h9) rfl dX1_charge_31 ?_
    refine nk_if_ne (tgt := 45) hx hb (by omega) dX1_charge_34 (by decide) (fun c34 => ?_) (fun c34 => ?_)
    · refine lv_iconst (v := nI 0) hx hb dX1_charge_45 (by decide +kernel) ?_
      exact W.iret (v := (nI 0)) hx hb hr (fun t ht hW => ⟨⟨(nI 0), wM g0 g1 g2 g3 g4 cI cJ d r gb w rm lc k dr pn pa pi 1 ga e2 b rt, rfl, Or.inl ⟨by omega, rfl⟩, by rw [ht]; exact hP, va_K.moved hW.alike hK, hD⟩, hS.F ht⟩) hS.2.2 dX1_charge_46
    · exfalso; omega
set_option maxHeartbeats 4000000 in
set_option maxRecDepth 100000 in
theorem c_X1_pass (l : Launch) (D : va_G) (g0 g1 g2 g3 g4 : Nat) (cI cJ : ClassId) (d r gb w rm lc k dr pn pa pi th : Nat) (ga e2 b rt : Nat → Nat) (sz : Nat) (p0 : Int32) (z : Int) (a9 : Nat)  (hz : p0.toInt = z) (hpa : 0 ≤ z → p0 = nI a9 ∧ a9 < 2147483648) (hgb2 : gb ≤ 15001) (hlc : lc ≤ 2) (he2 : ∀ j, j < lc → e2 j ≤ 15001) (hd : d ≤ 15000) (hk : k ≤ 20) (hroll : ∀ q, q < k → ∀ j, d + j ≤ 15000 → roll (rt q) (b q) j * rt q < 9223372036854775808) (hrt : ∀ q, q < k → rt q ≤ 2000)  : Met l yX1_pass wsX1_pass { frames := 2, cells := 0, slots := 0, locals := 42 } (nk_Pw D (wM g0 g1 g2 g3 g4 cI cJ d r gb w rm lc k dr pn pa pi th ga e2 b rt) (tX cI cJ) sz [.ref g0, .int p0]) (va_Qi (fun r9 w1 => (¬ (1 ≤ z ∧ z ≤ 3650) ∧ w1 = wM g0 g1 g2 g3 g4 cI cJ d r gb w rm lc k dr pn pa pi 1 ga e2 b rt) ∨ ((1 ≤ z ∧ z ≤ 3650) ∧ ¬ (d + a9 ≤ 15000) ∧ w1 = wM g0 g1 g2 g3 g4 cI cJ d r gb w rm lc k dr pn pa pi 2 ga e2 b rt) ∨ ((1 ≤ z ∧ z ≤ 3650) ∧ d + a9 ≤ 15000 ∧ r9 = nI (d + a9) ∧ ((¬ (0 < gb ∧ 0 < alive e2 lc) ∧ w1 = wM g0 g1 g2 g3 g4 cI cJ (d + a9) r gb w rm lc k dr pn pa pi 0 ga e2 b rt) ∨ ((0 < gb ∧ 0 < alive e2 lc) ∧ w1 = wM g0 g1 g2 g3 g4 cI cJ (d + a9) r gb w rm lc k dr pn pa pi 0 ga e2 (rlB rt b a9 k) rt)))) (fun w1 t => nk_At D (tX cI cJ) (va_A (wM g0 g1 g2 g3 g4 cI cJ d r gb w rm lc k dr pn pa pi th ga e2 b rt) sz) w1 t) (va_A (wM g0 g1 g2 g3 g4 cI cJ d r gb w rm lc k dr pn pa pi th ga e2 b rt) sz)) 0 0 (va_A (wM g0 g1 g2 g3 g4 cI cJ d r gb w rm lc k dr pn pa pi th ga e2 b rt) sz) := by
  refine Met.ofW (cc := cX1_pass) (maxL := 4) (ret := (some .int)) (by decide) rfl ?_
  intro p e s m args below meth c s₁ B hml hv
  obtain ⟨hargs, hsz, hP, hK, hD0⟩ := hv
  have hx := B.exec
  have hb := B.bytes
  have hr := B.returns
  have hts := atoms_spec (ws := wsX1_pass) B.pre
  have hown : s.vm.findClass RX1 = some m.cls := findClass_of_methodNamed B.named
  have hlocks := B.notSynchronized
  subst hsz
  have hin : ∀ w ∈ wsX10, w ∈ wsX1_pass := by decide +kernel
  have hD := hD0.self (sz := s.heap.size)
  generalize hAe : va_A (wM g0 g1 g2 g3 g4 cI cJ d r gb w rm lc k dr pn pa pi th ga e2 b rt) s.heap.size = A at hD ⊢
  have hA : ∀ q : Nat, s.heap.size ≤ q → A q := fun q h => by rw [← hAe]; exact Or.inr h
  have hS : va_S A s.heap s.heap [] := va_S.rf
  have f40 := hts (.fieldLink RX1 40 "EquityReleaseModel" "day" "I") (by decide +kernel)
  have f27 := hts (.fieldLink RX1 27 "EquityReleaseModel" "thrown" "I") (by decide +kernel)
  have f48 := hts (.fieldLink RX1 48 "EquityReleaseModel" "drawings" "I") (by decide +kernel)
  have f20 := hts (.fieldLink RX1 20 "EquityReleaseModel" "balances" "[J") (by decide +kernel)
  have f24 := hts (.fieldLink RX1 24 "EquityReleaseModel" "rates" "[I") (by decide +kernel)
  have k118 : (Cond.constantLong RX1 118 (lN 3650000)).before args s = true := by
    rw [show (lN 3650000 : Int64) = 3650000 from by decide +kernel]
    exact hts (.constantLong RX1 118 (3650000)) (by decide +kernel)
  have hl := lv_entry ([.ref g0, .int p0]) (n := 4) (Nat.le_of_ble_eq_true rfl)
  have hEe : entryFrame m args 4 = entryFrame m ([.ref g0, .int p0] : List Value).toArray 4 := by rw [hargs]
  rw [hEe, lg_entry_eq]
  generalize (lg_sl ([.ref g0, .int p0]) ++ List.replicate (4 - (lg_sl ([.ref g0, .int p0])).length) Slot.unset).toArray = ls at hl ⊢
  have hl : lv_has ls 4 [(0, .ref g0), (1, .int p0)] := hl
  refine lv_aload_n hx hb dX1_pass_0 rfl (lv_at hl 0 rfl) ?_
  refine lv_iload_n hx hb dX1_pass_1 rfl (lv_at hl 1 rfl) ?_
  refine lv_iconst (v := nI 1) hx hb dX1_pass_2 (by decide +kernel) ?_
  refine lv_sipush (v := nI 3650) hx hb dX1_pass_3 (by decide +kernel) ?_
  refine nk_rd (W.runS (As := [.int p0, .int (nI 1), .int (nI 3650)]) (rest := [.ref g0]) ⟨hx, hb, hml, hown, hts⟩ (c_X1_in l p0 (nI 1) (nI 3650) z ((1 : Nat) : Int) ((3650 : Nat) : Int) hz (nI_toInt (by omega)) (nI_toInt (by omega))) (va_cwS 3 hts gX1_pass_X1_in rfl rfl rfl (by decide +kernel) ⟨Nat.le_of_ble_eq_true rfl, Nat.le_of_ble_eq_true rfl⟩) ⟨nk_P0.blind, fun U hU hW => ⟨rfl, trivial⟩⟩ rfl rfl hl.1 rfl (lv_room (Nat.le_of_ble_eq_true rfl)) dX1_pass_6 ⟨Nat.zero_le _, Nat.zero_le _⟩) ?_
  refine W.eq (g2 := F0 m 9 ls [.int (nI (if ((1 : Nat) : Int) ≤ z ∧ z ≤ ((3650 : Nat) : Int) then 1 else 0)), .ref g0]) rfl ?_
  refine nk_bif_ne (tgt := 16) hx hb dX1_pass_9 (by decide) (fun c9 => ?_) (fun c9 => ?_)
  · obtain ⟨rfl, ha9⟩ := hpa (by omega)
    have za : z = (a9 : Int) := by rw [← hz]; exact nI_toInt (by omega)
    refine lv_aload_n hx hb dX1_pass_16 rfl (lv_at hl 0 rfl) ?_
    refine va_get (D := D) (ci := 1) (v := .int (nI d)) (C := RX1) (T := TX1) (N := 16) hx hb hts hin hown hK hP 0 rfl rfl 0 (by decide) f40 (fun _ h9 => h9) rfl dX1_pass_17 ?_
    refine lv_iload_n hx hb dX1_pass_20 rfl (lv_at hl 1 rfl) ?_
    refine nk_iadd hx hb dX1_pass_21 ?_
    refine lv_sipush (v := nI 15000) hx hb dX1_pass_22 (by decide +kernel) ?_
    refine nk_icmp_le (tgt := 32) hx hb (by omega) (by omega) dX1_pass_25 (by decide) (fun c25 => ?_) (fun c25 => ?_)
    · refine lv_iconst (v := nI 0) hx hb dX1_pass_32 (by decide +kernel) ?_
      refine va_put (D := D) (ci := 1) (v := .int (nI 0)) (ty := .int) (C := RX1) (T := TX1) (N := 16) hx hb hts hin tyX1 tyX1_ok nmX1 hown hK hP hD hS 0 rfl rfl 15 (by decide) f27 (fun _ h9 => h9) rfl (by decide +kernel) rfl rfl (Nat.le_of_ble_eq_true rfl) dX1_pass_33 (fun H locs hP hD hS => ?_)
      have hP : va_P D vwCl (wM g0 g1 g2 g3 g4 cI cJ d r gb w rm lc k dr pn pa pi 0 ga e2 b rt) H := hP
      have hD : va_D A (wM g0 g1 g2 g3 g4 cI cJ d r gb w rm lc k dr pn pa pi 0 ga e2 b rt) := hD
      refine lv_aload_n hx hb dX1_pass_36 rfl (lv_at hl 0 rfl) ?_
      refine va_get (D := D) (ci := 1) (v := .int (nI 0)) (C := RX1) (T := TX1) (N := 16) hx hb hts hin hown hK hP 0 rfl rfl 15 (by decide) f27 (fun _ h9 => h9) rfl dX1_pass_37 ?_
      refine nk_if_le (tgt := 45) hx hb (by omega) dX1_pass_40 (by decide) (fun c40 => ?_) (fun c40 => ?_)
      · by_cases hon : 0 < gb ∧ 0 < alive e2 lc
        · refine lv_iconst (v := nI 0) hx hb dX1_pass_45 (by decide +kernel) ?_
          refine lv_istore_n (lv' := [(2, .int (nI 0)), (0, .ref g0), (1, .int (nI a9))]) hx hb dX1_pass_46 rfl hl (by decide) rfl (fun ls hl => ?_)
          have loop47 : ∀ (n : Nat) (i : Nat), (i ≤ a9) → a9 + 1 ≤ i + n → ∀ (H : Heap) (locs : List Loc), va_P D vwCl (wM g0 g1 g2 g3 g4 cI cJ (d + i) r gb w rm lc k dr pn pa pi 0 ga e2 (rlB rt b i k) rt) H → va_D A (wM g0 g1 g2 g3 g4 cI cJ (d + i) r gb w rm lc k dr pn pa pi 0 ga e2 (rlB rt b i k) rt) → va_S A s.heap H locs → ∀ ls : Array Slot, lv_has ls 4 [(0, .ref g0), (1, .int (nI a9)), (2, .int (nI i))] → W p l e (headSpec wsX1_pass { frames := 2, cells := 0, slots := 0, locals := 42 }).room s m args below meth c H locs 0 0 (MQ below (va_Qi (fun r9 w1 => (¬ (1 ≤ z ∧ z ≤ 3650) ∧ w1 = wM g0 g1 g2 g3 g4 cI cJ d r gb w rm lc k dr pn pa pi 1 ga e2 b rt) ∨ ((1 ≤ z ∧ z ≤ 3650) ∧ ¬ (d + a9 ≤ 15000) ∧ w1 = wM g0 g1 g2 g3 g4 cI cJ d r gb w rm lc k dr pn pa pi 2 ga e2 b rt) ∨ ((1 ≤ z ∧ z ≤ 3650) ∧ d + a9 ≤ 15000 ∧ r9 = nI (d + a9) ∧ ((¬ (0 < gb ∧ 0 < alive e2 lc) ∧ w1 = wM g0 g1 g2 g3 g4 cI cJ (d + a9) r gb w rm lc k dr pn pa pi 0 ga e2 b rt) ∨ ((0 < gb ∧ 0 < alive e2 lc) ∧ w1 = wM g0 g1 g2 g3 g4 cI cJ (d + a9) r gb w rm lc k dr pn pa pi 0 ga e2 (rlB rt b a9 k) rt)))) (fun w1 t => nk_At D (tX cI cJ) A w1 t) A) args s 0 0 A) (F0 m 47 ls []) := by
            intro n
            induction n with
            | zero =>
              intro i hi hm
              exfalso; omega
            | succ n ih47 =>
              intro i hi hm H locs hP hD hS ls hl
              refine lv_iload_n hx hb dX1_pass_47 rfl (lv_at hl 2 rfl) ?_
              refine lv_iload_n hx hb dX1_pass_48 rfl (lv_at hl 1 rfl) ?_
              refine nk_icmp_ge (tgt := 118) hx hb (by omega) (by omega) dX1_pass_49 (by decide) (fun c49 => ?_) (fun c49 => ?_)
              · have e9 : i = a9 := by omega
                rw [e9] at hP hD
                refine lv_aload_n hx hb dX1_pass_118 rfl (lv_at hl 0 rfl) ?_
                refine va_get (D := D) (ci := 1) (v := .int (nI (d + a9))) (C := RX1) (T := TX1) (N := 16) hx hb hts hin hown hK hP 0 rfl rfl 0 (by decide) f40 (fun _ h9 => h9) rfl dX1_pass_119 ?_
                exact W.iret (v := (nI (d + a9))) hx hb hr (fun t ht hW => ⟨⟨(nI (d + a9)), wM g0 g1 g2 g3 g4 cI cJ (d + a9) r gb w rm lc k dr pn pa pi 0 ga e2 (rlB rt b a9 k) rt, rfl, Or.inr (Or.inr ⟨by omega, by omega, rfl, Or.inr ⟨hon, rfl⟩⟩), by rw [ht]; exact hP, va_K.moved hW.alike hK, hD⟩, hS.F ht⟩) hS.2.2 dX1_pass_122
              · refine lv_iconst (v := nI 0) hx hb dX1_pass_52 (by decide +kernel) ?_
                refine lv_istore_n (lv' := [(3, .int (nI 0)), (0, .ref g0), (1, .int (nI a9)), (2, .int (nI i))]) hx hb dX1_pass_53 rfl hl (by decide) rfl (fun ls hl => ?_)
                have loop54 : ∀ (n : Nat) (j : Nat), (j ≤ k) → k + 1 ≤ j + n → ∀ (H : Heap) (locs : List Loc), va_P D vwCl (wM g0 g1 g2 g3 g4 cI cJ (d + i) r gb w rm lc k dr pn pa pi 0 ga e2 (rl2 rt b i k j) rt) H → va_D A (wM g0 g1 g2 g3 g4 cI cJ (d + i) r gb w rm lc k dr pn pa pi 0 ga e2 (rl2 rt b i k j) rt) → va_S A s.heap H locs → ∀ ls : Array Slot, lv_has ls 4 [(0, .ref g0), (1, .int (nI a9)), (2, .int (nI i)), (3, .int (nI j))] → W p l e (headSpec wsX1_pass { frames := 2, cells := 0, slots := 0, locals := 42 }).room s m args below meth c H locs 0 0 (MQ below (va_Qi (fun r9 w1 => (¬ (1 ≤ z ∧ z ≤ 3650) ∧ w1 = wM g0 g1 g2 g3 g4 cI cJ d r gb w rm lc k dr pn pa pi 1 ga e2 b rt) ∨ ((1 ≤ z ∧ z ≤ 3650) ∧ ¬ (d + a9 ≤ 15000) ∧ w1 = wM g0 g1 g2 g3 g4 cI cJ d r gb w rm lc k dr pn pa pi 2 ga e2 b rt) ∨ ((1 ≤ z ∧ z ≤ 3650) ∧ d + a9 ≤ 15000 ∧ r9 = nI (d + a9) ∧ ((¬ (0 < gb ∧ 0 < alive e2 lc) ∧ w1 = wM g0 g1 g2 g3 g4 cI cJ (d + a9) r gb w rm lc k dr pn pa pi 0 ga e2 b rt) ∨ ((0 < gb ∧ 0 < alive e2 lc) ∧ w1 = wM g0 g1 g2 g3 g4 cI cJ (d + a9) r gb w rm lc k dr pn pa pi 0 ga e2 (rlB rt b a9 k) rt)))) (fun w1 t => nk_At D (tX cI cJ) A w1 t) A) args s 0 0 A) (F0 m 54 ls []) := by
                  intro n
                  induction n with
                  | zero =>
                    intro j hj hm
                    exfalso; omega
                  | succ n ih54 =>
                    intro j hj hm H locs hP hD hS ls hl
                    refine lv_iload_n hx hb dX1_pass_54 rfl (lv_at hl 3 rfl) ?_
                    refine lv_aload_n hx hb dX1_pass_55 rfl (lv_at hl 0 rfl) ?_
                    refine va_get (D := D) (ci := 1) (v := .int (nI k)) (C := RX1) (T := TX1) (N := 16) hx hb hts hin hown hK hP 0 rfl rfl 8 (by decide) f48 (fun _ h9 => h9) rfl dX1_pass_56 ?_
                    refine nk_icmp_ge (tgt := 102) hx hb (by omega) (by omega) dX1_pass_59 (by decide) (fun c59 => ?_) (fun c59 => ?_)
                    · have e9 : j = k := by omega
                      rw [e9, rl2_k] at hP hD
                      refine lv_aload_n hx hb dX1_pass_102 rfl (lv_at hl 0 rfl) ?_
                      refine lv_dup hx hb dX1_pass_103 rfl ?_
                      refine va_get (D := D) (ci := 1) (v := .int (nI (d + i))) (C := RX1) (T := TX1) (N := 16) hx hb hts hin hown hK hP 0 rfl rfl 0 (by decide) f40 (fun _ h9 => h9) rfl dX1_pass_104 ?_
                      refine lv_iconst (v := nI 1) hx hb dX1_pass_107 (by decide +kernel) ?_
                      refine nk_iadd hx hb dX1_pass_108 ?_
                      refine va_put (D := D) (ci := 1) (v := .int (nI ((d + i) + 1))) (ty := .int) (C := RX1) (T := TX1) (N := 16) hx hb hts hin tyX1 tyX1_ok nmX1 hown hK hP hD hS 0 rfl rfl 0 (by decide) f40 (fun _ h9 => h9) rfl (by decide +kernel) rfl rfl (Nat.le_of_ble_eq_true rfl) dX1_pass_109 (fun H locs hP hD hS => ?_)
                      have hP : va_P D vwCl (wM g0 g1 g2 g3 g4 cI cJ ((d + i) + 1) r gb w rm lc k dr pn pa pi 0 ga e2 (rlB rt b (i + 1) k) rt) H := hP
                      have hD : va_D A (wM g0 g1 g2 g3 g4 cI cJ ((d + i) + 1) r gb w rm lc k dr pn pa pi 0 ga e2 (rlB rt b (i + 1) k) rt) := hD
                      refine lv_iinc (v := (nI (i + 1))) (lv' := [(2, .int (nI (i + 1))), (0, .ref g0), (1, .int (nI a9)), (3, .int (nI j))]) hx hb dX1_pass_112 hl (k := 2) rfl (nI_1 _) (by decide) rfl (fun ls hl => ?_)
                      refine lv_goto (tgt := 47) hx hb dX1_pass_115 (by decide) ?_
                      have hP : va_P D vwCl (wM g0 g1 g2 g3 g4 cI cJ (d + (i + 1)) r gb w rm lc k dr pn pa pi 0 ga e2 (rlB rt b (i + 1) k) rt) H := hP
                      have hD : va_D A (wM g0 g1 g2 g3 g4 cI cJ (d + (i + 1)) r gb w rm lc k dr pn pa pi 0 ga e2 (rlB rt b (i + 1) k) rt) := hD
                      exact ih47 (i + 1) (by omega) (by omega) H locs hP hD hS ls (lv_sub hl [1, 2, 0] rfl)
                    · refine lv_aload_n hx hb dX1_pass_62 rfl (lv_at hl 0 rfl) ?_
                      refine nk_rd (W.runV (As := []) (rest := []) ⟨hx, hb, hml, hown, hts⟩ (c_X1_isOn l D g0 g1 g2 g3 g4 cI cJ (d + i) r gb w rm lc k dr pn pa pi 0 ga e2 (rl2 rt b i k j) rt (by omega) hlc he2) (cwV 0 hts gX1_pass_X1_isOn rfl rfl rfl (by decide +kernel) ⟨Nat.le_of_ble_eq_true rfl, Nat.le_of_ble_eq_true rfl⟩) ⟨nk_Pr.blind, va_recv hK hP (ci := 1) (q0 := 0) rfl rfl, fun U hU hW => ⟨rfl, by rw [hU]; exact hP, va_K.moved hW.alike hK⟩⟩ rfl rfl hl.1 rfl (lv_room (Nat.le_of_ble_eq_true rfl)) dX1_pass_63 ⟨Nat.zero_le _, Nat.zero_le _⟩) ?_
                      refine W.eq (g2 := F0 m 66 ls [.int (nI (if 0 < gb ∧ 0 < alive e2 lc then 1 else 0))]) rfl ?_
                      refine nk_bif_eq (tgt := 102) hx hb dX1_pass_66 (by decide) (fun c66 => ?_) (fun c66 => ?_)
                      · exact absurd hon c66
                      · refine lv_aload_n hx hb dX1_pass_69 rfl (lv_at hl 0 rfl) ?_
                        refine va_get (D := D) (ci := 1) (v := .ref g3) (C := RX1) (T := TX1) (N := 16) hx hb hts hin hown hK hP 0 rfl rfl 9 (by decide) f20 (fun _ h9 => h9) rfl dX1_pass_70 ?_
                        refine lv_iload_n hx hb dX1_pass_73 rfl (lv_at hl 3 rfl) ?_
                        refine lv_dup2_11 hx hb dX1_pass_74 rfl rfl ?_
                        refine nk_lald hx hb hK hP 3 1 rfl rfl (by omega) (by decide) dX1_pass_75 ?_
                        refine nk_topl (y := (lN (roll (rt j) (b j) i))) (congrArg lN (rl2_self (by omega))) ?_
                        refine lv_aload_n hx hb dX1_pass_76 rfl (lv_at hl 0 rfl) ?_
                        refine va_get (D := D) (ci := 1) (v := .ref g3) (C := RX1) (T := TX1) (N := 16) hx hb hts hin hown hK hP 0 rfl rfl 9 (by decide) f20 (fun _ h9 => h9) rfl dX1_pass_77 ?_
                        refine lv_iload_n hx hb dX1_pass_80 rfl (lv_at hl 3 rfl) ?_
                        refine nk_lald hx hb hK hP 3 1 rfl rfl (by omega) (by decide) dX1_pass_81 ?_
                        refine nk_topl (y := (lN (roll (rt j) (b j) i))) (congrArg lN (rl2_self (by omega))) ?_
                        refine lv_aload_n hx hb dX1_pass_82 rfl (lv_at hl 0 rfl) ?_
                        refine va_get (D := D) (ci := 1) (v := .ref g4) (C := RX1) (T := TX1) (N := 16) hx hb hts hin hown hK hP 0 rfl rfl 10 (by decide) f24 (fun _ h9 => h9) rfl dX1_pass_83 ?_
                        refine lv_iload_n hx hb dX1_pass_86 rfl (lv_at hl 3 rfl) ?_
                        refine nk_iald hx hb hK hP 4 0 rfl rfl (by omega) (by decide) dX1_pass_87 ?_
                        have hr2 := hrt j (by omega)
                        refine nk_i2l hx hb (by omega) dX1_pass_88 ?_
                        refine nk_lmul hx hb dX1_pass_89 ?_
                        have hr1 := hroll j (by omega) i (by omega)
                        have hr2 := hrt j (by omega)
                        refine lv_ldc2 (v := lN 3650000) hx hb hown k118 dX1_pass_90 ?_
                        refine nk_ldiv hx hb (by omega) (by decide) (by decide) dX1_pass_93 ?_
                        refine nk_ladd hx hb dX1_pass_94 ?_
                        refine nk_last hx hb hK hP hD hS 3 1 rfl rfl (by omega) (by decide) dX1_pass_95 (fun H locs hP hD hS => ?_)
                        have hP : va_P D vwCl (wM g0 g1 g2 g3 g4 cI cJ (d + i) r gb w rm lc k dr pn pa pi 0 ga e2 (va_up (rl2 rt b i k j) j ((roll (rt j) (b j) i) + (((roll (rt j) (b j) i) * (rt j)) / 3650000))) rt) H := hP
                        have hD : va_D A (wM g0 g1 g2 g3 g4 cI cJ (d + i) r gb w rm lc k dr pn pa pi 0 ga e2 (va_up (rl2 rt b i k j) j ((roll (rt j) (b j) i) + (((roll (rt j) (b j) i) * (rt j)) / 3650000))) rt) := hD
                        rw [rl2_s] at hP hD
                        refine lv_iinc (v := (nI (j + 1))) (lv' := [(3, .int (nI (j + 1))), (0, .ref g0), (1, .int (nI a9)), (2, .int (nI i))]) hx hb dX1_pass_96 hl (k := 3) rfl (nI_1 _) (by decide) rfl (fun ls hl => ?_)
                        refine lv_goto (tgt := 54) hx hb dX1_pass_99 (by decide) ?_
                        exact ih54 (j + 1) (by omega) (by omega) H locs hP hD hS ls (lv_sub hl [1, 2, 3, 0] rfl)
                have hP : va_P D vwCl (wM g0 g1 g2 g3 g4 cI cJ (d + i) r gb w rm lc k dr pn pa pi 0 ga e2 (rl2 rt b i k 0) rt) H := by rw [rl2_0]; exact hP
                have hD : va_D A (wM g0 g1 g2 g3 g4 cI cJ (d + i) r gb w rm lc k dr pn pa pi 0 ga e2 (rl2 rt b i k 0) rt) := by rw [rl2_0]; exact hD
                exact loop54 (k + 1) 0 (by omega) (by omega) H locs hP hD hS ls (lv_sub hl [1, 2, 3, 0] rfl)
          have hP : va_P D vwCl (wM g0 g1 g2 g3 g4 cI cJ (d + 0) r gb w rm lc k dr pn pa pi 0 ga e2 (rlB rt b 0 k) rt) H := by rw [rlB0_0]; exact hP
          have hD : va_D A (wM g0 g1 g2 g3 g4 cI cJ (d + 0) r gb w rm lc k dr pn pa pi 0 ga e2 (rlB rt b 0 k) rt) := by rw [rlB0_0]; exact hD
          exact loop47 (a9 + 1) 0 (by omega) (by omega) H locs hP hD hS ls (lv_sub hl [1, 2, 0] rfl)
        · refine lv_iconst (v := nI 0) hx hb dX1_pass_45 (by decide +kernel) ?_
          refine lv_istore_n (lv' := [(2, .int (nI 0)), (0, .ref g0), (1, .int (nI a9))]) hx hb dX1_pass_46 rfl hl (by decide) rfl (fun ls hl => ?_)
          have loop47 : ∀ (n : Nat) (i : Nat), (i ≤ a9) → a9 + 1 ≤ i + n → ∀ (H : Heap) (locs : List Loc), va_P D vwCl (wM g0 g1 g2 g3 g4 cI cJ (d + i) r gb w rm lc k dr pn pa pi 0 ga e2 b rt) H → va_D A (wM g0 g1 g2 g3 g4 cI cJ (d + i) r gb w rm lc k dr pn pa pi 0 ga e2 b rt) → va_S A s.heap H locs → ∀ ls : Array Slot, lv_has ls 4 [(0, .ref g0), (1, .int (nI a9)), (2, .int (nI i))] → W p l e (headSpec wsX1_pass { frames := 2, cells := 0, slots := 0, locals := 42 }).room s m args below meth c H locs 0 0 (MQ below (va_Qi (fun r9 w1 => (¬ (1 ≤ z ∧ z ≤ 3650) ∧ w1 = wM g0 g1 g2 g3 g4 cI cJ d r gb w rm lc k dr pn pa pi 1 ga e2 b rt) ∨ ((1 ≤ z ∧ z ≤ 3650) ∧ ¬ (d + a9 ≤ 15000) ∧ w1 = wM g0 g1 g2 g3 g4 cI cJ d r gb w rm lc k dr pn pa pi 2 ga e2 b rt) ∨ ((1 ≤ z ∧ z ≤ 3650) ∧ d + a9 ≤ 15000 ∧ r9 = nI (d + a9) ∧ ((¬ (0 < gb ∧ 0 < alive e2 lc) ∧ w1 = wM g0 g1 g2 g3 g4 cI cJ (d + a9) r gb w rm lc k dr pn pa pi 0 ga e2 b rt) ∨ ((0 < gb ∧ 0 < alive e2 lc) ∧ w1 = wM g0 g1 g2 g3 g4 cI cJ (d + a9) r gb w rm lc k dr pn pa pi 0 ga e2 (rlB rt b a9 k) rt)))) (fun w1 t => nk_At D (tX cI cJ) A w1 t) A) args s 0 0 A) (F0 m 47 ls []) := by
            intro n
            induction n with
            | zero =>
              intro i hi hm
              exfalso; omega
            | succ n ih47 =>
              intro i hi hm H locs hP hD hS ls hl
              refine lv_iload_n hx hb dX1_pass_47 rfl (lv_at hl 2 rfl) ?_
              refine lv_iload_n hx hb dX1_pass_48 rfl (lv_at hl 1 rfl) ?_
              refine nk_icmp_ge (tgt := 118) hx hb (by omega) (by omega) dX1_pass_49 (by decide) (fun c49 => ?_) (fun c49 => ?_)
              · have e9 : i = a9 := by omega
                rw [e9] at hP hD
                refine lv_aload_n hx hb dX1_pass_118 rfl (lv_at hl 0 rfl) ?_
                refine va_get (D := D) (ci := 1) (v := .int (nI (d + a9))) (C := RX1) (T := TX1) (N := 16) hx hb hts hin hown hK hP 0 rfl rfl 0 (by decide) f40 (fun _ h9 => h9) rfl dX1_pass_119 ?_
                exact W.iret (v := (nI (d + a9))) hx hb hr (fun t ht hW => ⟨⟨(nI (d + a9)), wM g0 g1 g2 g3 g4 cI cJ (d + a9) r gb w rm lc k dr pn pa pi 0 ga e2 b rt, rfl, Or.inr (Or.inr ⟨by omega, by omega, rfl, Or.inl ⟨hon, rfl⟩⟩), by rw [ht]; exact hP, va_K.moved hW.alike hK, hD⟩, hS.F ht⟩) hS.2.2 dX1_pass_122
              · refine lv_iconst (v := nI 0) hx hb dX1_pass_52 (by decide +kernel) ?_
                refine lv_istore_n (lv' := [(3, .int (nI 0)), (0, .ref g0), (1, .int (nI a9)), (2, .int (nI i))]) hx hb dX1_pass_53 rfl hl (by decide) rfl (fun ls hl => ?_)
                have loop54 : ∀ (n : Nat) (j : Nat), (j ≤ k) → k + 1 ≤ j + n → ∀ (H : Heap) (locs : List Loc), va_P D vwCl (wM g0 g1 g2 g3 g4 cI cJ (d + i) r gb w rm lc k dr pn pa pi 0 ga e2 b rt) H → va_D A (wM g0 g1 g2 g3 g4 cI cJ (d + i) r gb w rm lc k dr pn pa pi 0 ga e2 b rt) → va_S A s.heap H locs → ∀ ls : Array Slot, lv_has ls 4 [(0, .ref g0), (1, .int (nI a9)), (2, .int (nI i)), (3, .int (nI j))] → W p l e (headSpec wsX1_pass { frames := 2, cells := 0, slots := 0, locals := 42 }).room s m args below meth c H locs 0 0 (MQ below (va_Qi (fun r9 w1 => (¬ (1 ≤ z ∧ z ≤ 3650) ∧ w1 = wM g0 g1 g2 g3 g4 cI cJ d r gb w rm lc k dr pn pa pi 1 ga e2 b rt) ∨ ((1 ≤ z ∧ z ≤ 3650) ∧ ¬ (d + a9 ≤ 15000) ∧ w1 = wM g0 g1 g2 g3 g4 cI cJ d r gb w rm lc k dr pn pa pi 2 ga e2 b rt) ∨ ((1 ≤ z ∧ z ≤ 3650) ∧ d + a9 ≤ 15000 ∧ r9 = nI (d + a9) ∧ ((¬ (0 < gb ∧ 0 < alive e2 lc) ∧ w1 = wM g0 g1 g2 g3 g4 cI cJ (d + a9) r gb w rm lc k dr pn pa pi 0 ga e2 b rt) ∨ ((0 < gb ∧ 0 < alive e2 lc) ∧ w1 = wM g0 g1 g2 g3 g4 cI cJ (d + a9) r gb w rm lc k dr pn pa pi 0 ga e2 (rlB rt b a9 k) rt)))) (fun w1 t => nk_At D (tX cI cJ) A w1 t) A) args s 0 0 A) (F0 m 54 ls []) := by
                  intro n
                  induction n with
                  | zero =>
                    intro j hj hm
                    exfalso; omega
                  | succ n ih54 =>
                    intro j hj hm H locs hP hD hS ls hl
                    refine lv_iload_n hx hb dX1_pass_54 rfl (lv_at hl 3 rfl) ?_
                    refine lv_aload_n hx hb dX1_pass_55 rfl (lv_at hl 0 rfl) ?_
                    refine va_get (D := D) (ci := 1) (v := .int (nI k)) (C := RX1) (T := TX1) (N := 16) hx hb hts hin hown hK hP 0 rfl rfl 8 (by decide) f48 (fun _ h9 => h9) rfl dX1_pass_56 ?_
                    refine nk_icmp_ge (tgt := 102) hx hb (by omega) (by omega) dX1_pass_59 (by decide) (fun c59 => ?_) (fun c59 => ?_)
                    · refine lv_aload_n hx hb dX1_pass_102 rfl (lv_at hl 0 rfl) ?_
                      refine lv_dup hx hb dX1_pass_103 rfl ?_
                      refine va_get (D := D) (ci := 1) (v := .int (nI (d + i))) (C := RX1) (T := TX1) (N := 16) hx hb hts hin hown hK hP 0 rfl rfl 0 (by decide) f40 (fun _ h9 => h9) rfl dX1_pass_104 ?_
                      refine lv_iconst (v := nI 1) hx hb dX1_pass_107 (by decide +kernel) ?_
                      refine nk_iadd hx hb dX1_pass_108 ?_
                      refine va_put (D := D) (ci := 1) (v := .int (nI ((d + i) + 1))) (ty := .int) (C := RX1) (T := TX1) (N := 16) hx hb hts hin tyX1 tyX1_ok nmX1 hown hK hP hD hS 0 rfl rfl 0 (by decide) f40 (fun _ h9 => h9) rfl (by decide +kernel) rfl rfl (Nat.le_of_ble_eq_true rfl) dX1_pass_109 (fun H locs hP hD hS => ?_)
                      have hP : va_P D vwCl (wM g0 g1 g2 g3 g4 cI cJ ((d + i) + 1) r gb w rm lc k dr pn pa pi 0 ga e2 b rt) H := hP
                      have hD : va_D A (wM g0 g1 g2 g3 g4 cI cJ ((d + i) + 1) r gb w rm lc k dr pn pa pi 0 ga e2 b rt) := hD
                      refine lv_iinc (v := (nI (i + 1))) (lv' := [(2, .int (nI (i + 1))), (0, .ref g0), (1, .int (nI a9)), (3, .int (nI j))]) hx hb dX1_pass_112 hl (k := 2) rfl (nI_1 _) (by decide) rfl (fun ls hl => ?_)
                      refine lv_goto (tgt := 47) hx hb dX1_pass_115 (by decide) ?_
                      have hP : va_P D vwCl (wM g0 g1 g2 g3 g4 cI cJ (d + (i + 1)) r gb w rm lc k dr pn pa pi 0 ga e2 b rt) H := hP
                      have hD : va_D A (wM g0 g1 g2 g3 g4 cI cJ (d + (i + 1)) r gb w rm lc k dr pn pa pi 0 ga e2 b rt) := hD
                      exact ih47 (i + 1) (by omega) (by omega) H locs hP hD hS ls (lv_sub hl [1, 2, 0] rfl)
                    · refine lv_aload_n hx hb dX1_pass_62 rfl (lv_at hl 0 rfl) ?_
                      refine nk_rd (W.runV (As := []) (rest := []) ⟨hx, hb, hml, hown, hts⟩ (c_X1_isOn l D g0 g1 g2 g3 g4 cI cJ (d + i) r gb w rm lc k dr pn pa pi 0 ga e2 b rt (by omega) hlc he2) (cwV 0 hts gX1_pass_X1_isOn rfl rfl rfl (by decide +kernel) ⟨Nat.le_of_ble_eq_true rfl, Nat.le_of_ble_eq_true rfl⟩) ⟨nk_Pr.blind, va_recv hK hP (ci := 1) (q0 := 0) rfl rfl, fun U hU hW => ⟨rfl, by rw [hU]; exact hP, va_K.moved hW.alike hK⟩⟩ rfl rfl hl.1 rfl (lv_room (Nat.le_of_ble_eq_true rfl)) dX1_pass_63 ⟨Nat.zero_le _, Nat.zero_le _⟩) ?_
                      refine W.eq (g2 := F0 m 66 ls [.int (nI (if 0 < gb ∧ 0 < alive e2 lc then 1 else 0))]) rfl ?_
                      refine nk_bif_eq (tgt := 102) hx hb dX1_pass_66 (by decide) (fun c66 => ?_) (fun c66 => ?_)
                      · refine lv_aload_n hx hb dX1_pass_102 rfl (lv_at hl 0 rfl) ?_
                        refine lv_dup hx hb dX1_pass_103 rfl ?_
                        refine va_get (D := D) (ci := 1) (v := .int (nI (d + i))) (C := RX1) (T := TX1) (N := 16) hx hb hts hin hown hK hP 0 rfl rfl 0 (by decide) f40 (fun _ h9 => h9) rfl dX1_pass_104 ?_
                        refine lv_iconst (v := nI 1) hx hb dX1_pass_107 (by decide +kernel) ?_
                        refine nk_iadd hx hb dX1_pass_108 ?_
                        refine va_put (D := D) (ci := 1) (v := .int (nI ((d + i) + 1))) (ty := .int) (C := RX1) (T := TX1) (N := 16) hx hb hts hin tyX1 tyX1_ok nmX1 hown hK hP hD hS 0 rfl rfl 0 (by decide) f40 (fun _ h9 => h9) rfl (by decide +kernel) rfl rfl (Nat.le_of_ble_eq_true rfl) dX1_pass_109 (fun H locs hP hD hS => ?_)
                        have hP : va_P D vwCl (wM g0 g1 g2 g3 g4 cI cJ ((d + i) + 1) r gb w rm lc k dr pn pa pi 0 ga e2 b rt) H := hP
                        have hD : va_D A (wM g0 g1 g2 g3 g4 cI cJ ((d + i) + 1) r gb w rm lc k dr pn pa pi 0 ga e2 b rt) := hD
                        refine lv_iinc (v := (nI (i + 1))) (lv' := [(2, .int (nI (i + 1))), (0, .ref g0), (1, .int (nI a9)), (3, .int (nI j))]) hx hb dX1_pass_112 hl (k := 2) rfl (nI_1 _) (by decide) rfl (fun ls hl => ?_)
                        refine lv_goto (tgt := 47) hx hb dX1_pass_115 (by decide) ?_
                        have hP : va_P D vwCl (wM g0 g1 g2 g3 g4 cI cJ (d + (i + 1)) r gb w rm lc k dr pn pa pi 0 ga e2 b rt) H := hP
                        have hD : va_D A (wM g0 g1 g2 g3 g4 cI cJ (d + (i + 1)) r gb w rm lc k dr pn pa pi 0 ga e2 b rt) := hD
                        exact ih47 (i + 1) (by omega) (by omega) H locs hP hD hS ls (lv_sub hl [1, 2, 0] rfl)
                      · exact absurd c66 hon
                exact loop54 (k + 1) 0 (by omega) (by omega) H locs hP hD hS ls (lv_sub hl [1, 2, 3, 0] rfl)
          have hP : va_P D vwCl (wM g0 g1 g2 g3 g4 cI cJ (d + 0) r gb w rm lc k dr pn pa pi 0 ga e2 b rt) H := by exact hP
          have hD : va_D A (wM g0 g1 g2 g3 g4 cI cJ (d + 0) r gb w rm lc k dr pn pa pi 0 ga e2 b rt) := by exact hD
          exact loop47 (a9 + 1) 0 (by omega) (by omega) H locs hP hD hS ls (lv_sub hl [1, 2, 0] rfl)
      · exfalso; omega
    · refine lv_iconst (v := nI 2) hx hb dX1_pass_28 (by decide +kernel) ?_
      refine lv_goto (tgt := 33) hx hb dX1_pass_29 (by decide) ?_
      refine va_put (D := D) (ci := 1) (v := .int (nI 2)) (ty := .int) (C := RX1) (T := TX1) (N := 16) hx hb hts hin tyX1 tyX1_ok nmX1 hown hK hP hD hS 0 rfl rfl 15 (by decide) f27 (fun _ h9 => h9) rfl (by decide +kernel) rfl rfl (Nat.le_of_ble_eq_true rfl) dX1_pass_33 (fun H locs hP hD hS => ?_)
      have hP : va_P D vwCl (wM g0 g1 g2 g3 g4 cI cJ d r gb w rm lc k dr pn pa pi 2 ga e2 b rt) H := hP
      have hD : va_D A (wM g0 g1 g2 g3 g4 cI cJ d r gb w rm lc k dr pn pa pi 2 ga e2 b rt) := hD
      refine lv_aload_n hx hb dX1_pass_36 rfl (lv_at hl 0 rfl) ?_
      refine va_get (D := D) (ci := 1) (v := .int (nI 2)) (C := RX1) (T := TX1) (N := 16) hx hb hts hin hown hK hP 0 rfl rfl 15 (by decide) f27 (fun _ h9 => h9) rfl dX1_pass_37 ?_
      refine nk_if_le (tgt := 45) hx hb (by omega) dX1_pass_40 (by decide) (fun c40 => ?_) (fun c40 => ?_)
      · exfalso; omega
      · refine lv_iconst (v := nI 0) hx hb dX1_pass_43 (by decide +kernel) ?_
        exact W.iret (v := (nI 0)) hx hb hr (fun t ht hW => ⟨⟨(nI 0), wM g0 g1 g2 g3 g4 cI cJ d r gb w rm lc k dr pn pa pi 2 ga e2 b rt, rfl, Or.inr (Or.inl ⟨by omega, by omega, rfl⟩), by rw [ht]; exact hP, va_K.moved hW.alike hK, hD⟩, hS.F ht⟩) hS.2.2 dX1_pass_44
  · refine lv_iconst (v := nI 1) hx hb dX1_pass_12 (by decide +kernel) ?_
    refine lv_goto (tgt := 33) hx hb dX1_pass_13 (by decide) ?_
    refine va_put (D := D) (ci := 1) (v := .int (nI 1)) (ty := .int) (C := RX1) (T := TX1) (N := 16) hx hb hts hin tyX1 tyX1_ok nmX1 hown hK hP hD hS 0 rfl rfl 15 (by decide) f27 (fun _ h9 => h9) rfl (by decide +kernel) rfl rfl (Nat.le_of_ble_eq_true rfl) dX1_pass_33 (fun H locs hP hD hS => ?_)
    have hP : va_P D vwCl (wM g0 g1 g2 g3 g4 cI cJ d r gb w rm lc k dr pn pa pi 1 ga e2 b rt) H := hP
    have hD : va_D A (wM g0 g1 g2 g3 g4 cI cJ d r gb w rm lc k dr pn pa pi 1 ga e2 b rt) := hD
    refine lv_aload_n hx hb dX1_pass_36 rfl (lv_at hl 0 rfl) ?_
    refine va_get (D := D) (ci := 1) (v := .int (nI 1)) (C := RX1) (T := TX1) (N := 16) hx hb hts hin hown hK hP 0 rfl rfl 15 (by decide) f27 (fun _ h9 => h9) rfl dX1_pass_37 ?_
    refine nk_if_le (tgt := 45) hx hb (by omega) dX1_pass_40 (by decide) (fun c40 => ?_) (fun c40 => ?_)
    · exfalso; omega
    · refine lv_iconst (v := nI 0) hx hb dX1_pass_43 (by decide +kernel) ?_
      exact W.iret (v := (nI 0)) hx hb hr (fun t ht hW => ⟨⟨(nI 0), wM g0 g1 g2 g3 g4 cI cJ d r gb w rm lc k dr pn pa pi 1 ga e2 b rt, rfl, Or.inl ⟨by omega, rfl⟩, by rw [ht]; exact hP, va_K.moved hW.alike hK, hD⟩, hS.F ht⟩) hS.2.2 dX1_pass_44
set_option maxHeartbeats 4000000 in
set_option maxRecDepth 100000 in
theorem c_X1_begin (l : Launch) (D : va_G) (g0 g1 g2 g3 g4 : Nat) (cI cJ : ClassId) (d r gb w rm lc k dr pn pa pi th : Nat) (ga e2 b rt : Nat → Nat) (sz : Nat) (p1 p2 p3 p4 : Int32) (z1 z2 z3 z4 : Int) (a1 a2 a3 a4 : Nat) (hz1 : p1.toInt = z1) (hpa1 : 0 ≤ z1 → p1 = nI a1 ∧ a1 < 2147483648) (hz2 : p2.toInt = z2) (hpa2 : 0 ≤ z2 → p2 = nI a2 ∧ a2 < 2147483648) (hz3 : p3.toInt = z3) (hpa3 : 0 ≤ z3 → p3 = nI a3 ∧ a3 < 2147483648) (hz4 : p4.toInt = z4) (hpa4 : 0 ≤ z4 → p4 = nI a4 ∧ a4 < 2147483648) (hgb2 : gb ≤ 15001) (hd : d ≤ 15000) (he20 : gb = 0 → e2 0 = 0) (he21 : gb = 0 → e2 1 = 0) (hk0 : gb = 0 → k = 0) (he28 : ∀ j, j < 2 → e2 j ≤ 15001) : Met l yX1_begin wsX1_begin { frames := 2, cells := 0, slots := 0, locals := 45 } (nk_Pw D (wM g0 g1 g2 g3 g4 cI cJ d r gb w rm lc k dr pn pa pi th ga e2 b rt) (tX cI cJ) sz [.ref g0, .int p1, .int p2, .int p3, .int p4]) (va_Qi (fun r9 w1 => (¬ ((1000 ≤ z1 ∧ z1 ≤ 10000000) ∧ (55 ≤ z2 ∧ z2 ≤ 95) ∧ (z3 = 0 ∨ (55 ≤ z3 ∧ z3 ≤ 95)) ∧ (0 ≤ z4 ∧ z4 ≤ 10000000)) ∧ w1 = wM g0 g1 g2 g3 g4 cI cJ d r gb w rm lc k dr pn pa pi 1 ga e2 b rt) ∨ (((1000 ≤ z1 ∧ z1 ≤ 10000000) ∧ (55 ≤ z2 ∧ z2 ≤ 95) ∧ (z3 = 0 ∨ (55 ≤ z3 ∧ z3 ≤ 95)) ∧ (0 ≤ z4 ∧ z4 ≤ 10000000)) ∧ ((0 < gb ∧ w1 = wM g0 g1 g2 g3 g4 cI cJ d r gb w rm lc k dr pn pa pi 2 ga e2 b rt) ∨ (gb = 0 ∧ ((a3 = 0 ∧ gL a1 (a2 + d / 365) < a4) ∨ (0 < a3 ∧ gL a1 (min a2 a3 + d / 365) < a4)) ∧ w1 = wM g0 g1 g2 g3 g4 cI cJ d r gb w rm 0 k dr pn pa pi 2 (va_up (va_up ga 0 a2) 1 a3) e2 b rt))) ∨ (((1000 ≤ z1 ∧ z1 ≤ 10000000) ∧ (55 ≤ z2 ∧ z2 ≤ 95) ∧ (z3 = 0 ∨ (55 ≤ z3 ∧ z3 ≤ 95)) ∧ (0 ≤ z4 ∧ z4 ≤ 10000000)) ∧ gb = 0 ∧ ((a3 = 0 ∧ a4 = 0 ∧ a4 ≤ gL a1 (a2 + d / 365) ∧ r9 = nI (gL a1 (a2 + d / 365) - a4) ∧ w1 = wM g0 g1 g2 g3 g4 cI cJ d r (d + 1) a1 (gL a1 (a2 + d / 365) - a4) 1 k dr pn pa pi 0 (va_up (va_up ga 0 a2) 1 a3) e2 b rt) ∨ (a3 = 0 ∧ 0 < a4 ∧ a4 ≤ gL a1 (a2 + d / 365) ∧ r9 = nI (gL a1 (a2 + d / 365) - a4) ∧ w1 = wM g0 g1 g2 g3 g4 cI cJ d r (d + 1) a1 (gL a1 (a2 + d / 365) - a4) 1 (k + 1) (dr + a4) pn pa pi 0 (va_up (va_up ga 0 a2) 1 a3) e2 (va_up b k (a4 * 10000)) (va_up rt k r)) ∨ (0 < a3 ∧ a4 = 0 ∧ a4 ≤ gL a1 (min a2 a3 + d / 365) ∧ r9 = nI (gL a1 (min a2 a3 + d / 365) - a4) ∧ w1 = wM g0 g1 g2 g3 g4 cI cJ d r (d + 1) a1 (gL a1 (min a2 a3 + d / 365) - a4) 2 k dr pn pa pi 0 (va_up (va_up ga 0 a2) 1 a3) e2 b rt) ∨ (0 < a3 ∧ 0 < a4 ∧ a4 ≤ gL a1 (min a2 a3 + d / 365) ∧ r9 = nI (gL a1 (min a2 a3 + d / 365) - a4) ∧ w1 = wM g0 g1 g2 g3 g4 cI cJ d r (d + 1) a1 (gL a1 (min a2 a3 + d / 365) - a4) 2 (k + 1) (dr + a4) pn pa pi 0 (va_up (va_up ga 0 a2) 1 a3) e2 (va_up b k (a4 * 10000)) (va_up rt k r))))) (fun w1 t => nk_At D (tX cI cJ) (va_A (wM g0 g1 g2 g3 g4 cI cJ d r gb w rm lc k dr pn pa pi th ga e2 b rt) sz) w1 t) (va_A (wM g0 g1 g2 g3 g4 cI cJ d r gb w rm lc k dr pn pa pi th ga e2 b rt) sz)) 0 0 (va_A (wM g0 g1 g2 g3 g4 cI cJ d r gb w rm lc k dr pn pa pi th ga e2 b rt) sz) := by
  refine Met.ofW (cc := cX1_begin) (maxL := 6) (ret := (some .int)) (by decide) rfl ?_
  intro p e s m args below meth c s₁ B hml hv
  obtain ⟨hargs, hsz, hP, hK, hD0⟩ := hv
  have hx := B.exec
  have hb := B.bytes
  have hr := B.returns
  have hts := atoms_spec (ws := wsX1_begin) B.pre
  have hown : s.vm.findClass RX1 = some m.cls := findClass_of_methodNamed B.named
  have hlocks := B.notSynchronized
  subst hsz
  have hin : ∀ w ∈ wsX10, w ∈ wsX1_begin := by decide +kernel
  have hD := hD0.self (sz := s.heap.size)
  generalize hAe : va_A (wM g0 g1 g2 g3 g4 cI cJ d r gb w rm lc k dr pn pa pi th ga e2 b rt) s.heap.size = A at hD ⊢
  have hA : ∀ q : Nat, s.heap.size ≤ q → A q := fun q h => by rw [← hAe]; exact Or.inr h
  have hS : va_S A s.heap s.heap [] := va_S.rf
  have k57 : (Cond.constant RX1 57 (nI 10000000)).before args s = true := by
    rw [show (nI 10000000 : Int32) = 10000000 from by decide +kernel]
    exact hts (.constant RX1 57 (10000000)) (by decide +kernel)
  have f27 := hts (.fieldLink RX1 27 "EquityReleaseModel" "thrown" "I") (by decide +kernel)
  have f33 := hts (.fieldLink RX1 33 "EquityReleaseModel" "begun" "I") (by decide +kernel)
  have f30 := hts (.fieldLink RX1 30 "EquityReleaseModel" "lives" "I") (by decide +kernel)
  have f13 := hts (.fieldLink RX1 13 "EquityReleaseModel" "ages" "[I") (by decide +kernel)
  have f40 := hts (.fieldLink RX1 40 "EquityReleaseModel" "day" "I") (by decide +kernel)
  have f69 := hts (.fieldLink RX1 69 "EquityReleaseModel" "worth" "I") (by decide +kernel)
  have f72 := hts (.fieldLink RX1 72 "EquityReleaseModel" "room" "I") (by decide +kernel)
  have hl := lv_entry ([.ref g0, .int p1, .int p2, .int p3, .int p4]) (n := 6) (Nat.le_of_ble_eq_true rfl)
  have hEe : entryFrame m args 6 = entryFrame m ([.ref g0, .int p1, .int p2, .int p3, .int p4] : List Value).toArray 6 := by rw [hargs]
  rw [hEe, lg_entry_eq]
  generalize (lg_sl ([.ref g0, .int p1, .int p2, .int p3, .int p4]) ++ List.replicate (6 - (lg_sl ([.ref g0, .int p1, .int p2, .int p3, .int p4])).length) Slot.unset).toArray = ls at hl ⊢
  have hl : lv_has ls 6 [(0, .ref g0), (1, .int p1), (2, .int p2), (3, .int p3), (4, .int p4)] := hl
  refine lv_aload_n hx hb dX1_begin_0 rfl (lv_at hl 0 rfl) ?_
  refine lv_iload_n hx hb dX1_begin_1 rfl (lv_at hl 1 rfl) ?_
  refine lv_sipush (v := nI 1000) hx hb dX1_begin_2 (by decide +kernel) ?_
  refine lv_ldc (v := nI 10000000) hx hb hown k57 dX1_begin_5 ?_
  refine nk_rd (W.runS (As := [.int p1, .int (nI 1000), .int (nI 10000000)]) (rest := [.ref g0]) ⟨hx, hb, hml, hown, hts⟩ (c_X1_in l p1 (nI 1000) (nI 10000000) z1 ((1000 : Nat) : Int) ((10000000 : Nat) : Int) hz1 (nI_toInt (by omega)) (nI_toInt (by omega))) (va_cwS 3 hts gX1_begin_X1_in rfl rfl rfl (by decide +kernel) ⟨Nat.le_of_ble_eq_true rfl, Nat.le_of_ble_eq_true rfl⟩) ⟨nk_P0.blind, fun U hU hW => ⟨rfl, trivial⟩⟩ rfl rfl hl.1 rfl (lv_room (Nat.le_of_ble_eq_true rfl)) dX1_begin_7 ⟨Nat.zero_le _, Nat.zero_le _⟩) ?_
  refine W.eq (g2 := F0 m 10 ls [.int (nI (if ((1000 : Nat) : Int) ≤ z1 ∧ z1 ≤ ((10000000 : Nat) : Int) then 1 else 0)), .ref g0]) rfl ?_
  refine nk_bif_eq (tgt := 54) hx hb dX1_begin_10 (by decide) (fun c10 => ?_) (fun c10 => ?_)
  · refine lv_iconst (v := nI 1) hx hb dX1_begin_54 (by decide +kernel) ?_
    refine va_put (D := D) (ci := 1) (v := .int (nI 1)) (ty := .int) (C := RX1) (T := TX1) (N := 16) hx hb hts hin tyX1 tyX1_ok nmX1 hown hK hP hD hS 0 rfl rfl 15 (by decide) f27 (fun _ h9 => h9) rfl (by decide +kernel) rfl rfl (Nat.le_of_ble_eq_true rfl) dX1_begin_55 (fun H locs hP hD hS => ?_)
    have hP : va_P D vwCl (wM g0 g1 g2 g3 g4 cI cJ d r gb w rm lc k dr pn pa pi 1 ga e2 b rt) H := hP
    have hD : va_D A (wM g0 g1 g2 g3 g4 cI cJ d r gb w rm lc k dr pn pa pi 1 ga e2 b rt) := hD
    refine lv_aload_n hx hb dX1_begin_58 rfl (lv_at hl 0 rfl) ?_
    refine va_get (D := D) (ci := 1) (v := .int (nI 1)) (C := RX1) (T := TX1) (N := 16) hx hb hts hin hown hK hP 0 rfl rfl 15 (by decide) f27 (fun _ h9 => h9) rfl dX1_begin_59 ?_
    refine nk_if_le (tgt := 67) hx hb (by omega) dX1_begin_62 (by decide) (fun c62 => ?_) (fun c62 => ?_)
    · exfalso; omega
    · refine lv_iconst (v := nI 0) hx hb dX1_begin_65 (by decide +kernel) ?_
      exact W.iret (v := (nI 0)) hx hb hr (fun t ht hW => ⟨⟨(nI 0), wM g0 g1 g2 g3 g4 cI cJ d r gb w rm lc k dr pn pa pi 1 ga e2 b rt, rfl, Or.inl ⟨by omega, rfl⟩, by rw [ht]; exact hP, va_K.moved hW.alike hK, hD⟩, hS.F ht⟩) hS.2.2 dX1_begin_66
  · refine lv_iload_n hx hb dX1_begin_13 rfl (lv_at hl 2 rfl) ?_
    refine lv_bipush (v := nI 55) hx hb dX1_begin_14 (by decide +kernel) ?_
    refine lv_bipush (v := nI 95) hx hb dX1_begin_16 (by decide +kernel) ?_
    refine nk_rd (W.runS (As := [.int p2, .int (nI 55), .int (nI 95)]) (rest := [.ref g0]) ⟨hx, hb, hml, hown, hts⟩ (c_X1_in l p2 (nI 55) (nI 95) z2 ((55 : Nat) : Int) ((95 : Nat) : Int) hz2 (nI_toInt (by omega)) (nI_toInt (by omega))) (va_cwS 3 hts gX1_begin_X1_in rfl rfl rfl (by decide +kernel) ⟨Nat.le_of_ble_eq_true rfl, Nat.le_of_ble_eq_true rfl⟩) ⟨nk_P0.blind, fun U hU hW => ⟨rfl, trivial⟩⟩ rfl rfl hl.1 rfl (lv_room (Nat.le_of_ble_eq_true rfl)) dX1_begin_18 ⟨Nat.zero_le _, Nat.zero_le _⟩) ?_
    refine W.eq (g2 := F0 m 21 ls [.int (nI (if ((55 : Nat) : Int) ≤ z2 ∧ z2 ≤ ((95 : Nat) : Int) then 1 else 0)), .ref g0]) rfl ?_
    refine nk_bif_eq (tgt := 54) hx hb dX1_begin_21 (by decide) (fun c21 => ?_) (fun c21 => ?_)
    · refine lv_iconst (v := nI 1) hx hb dX1_begin_54 (by decide +kernel) ?_
      refine va_put (D := D) (ci := 1) (v := .int (nI 1)) (ty := .int) (C := RX1) (T := TX1) (N := 16) hx hb hts hin tyX1 tyX1_ok nmX1 hown hK hP hD hS 0 rfl rfl 15 (by decide) f27 (fun _ h9 => h9) rfl (by decide +kernel) rfl rfl (Nat.le_of_ble_eq_true rfl) dX1_begin_55 (fun H locs hP hD hS => ?_)
      have hP : va_P D vwCl (wM g0 g1 g2 g3 g4 cI cJ d r gb w rm lc k dr pn pa pi 1 ga e2 b rt) H := hP
      have hD : va_D A (wM g0 g1 g2 g3 g4 cI cJ d r gb w rm lc k dr pn pa pi 1 ga e2 b rt) := hD
      refine lv_aload_n hx hb dX1_begin_58 rfl (lv_at hl 0 rfl) ?_
      refine va_get (D := D) (ci := 1) (v := .int (nI 1)) (C := RX1) (T := TX1) (N := 16) hx hb hts hin hown hK hP 0 rfl rfl 15 (by decide) f27 (fun _ h9 => h9) rfl dX1_begin_59 ?_
      refine nk_if_le (tgt := 67) hx hb (by omega) dX1_begin_62 (by decide) (fun c62 => ?_) (fun c62 => ?_)
      · exfalso; omega
      · refine lv_iconst (v := nI 0) hx hb dX1_begin_65 (by decide +kernel) ?_
        exact W.iret (v := (nI 0)) hx hb hr (fun t ht hW => ⟨⟨(nI 0), wM g0 g1 g2 g3 g4 cI cJ d r gb w rm lc k dr pn pa pi 1 ga e2 b rt, rfl, Or.inl ⟨by omega, rfl⟩, by rw [ht]; exact hP, va_K.moved hW.alike hK, hD⟩, hS.F ht⟩) hS.2.2 dX1_begin_66
    · refine lv_iload_n hx hb dX1_begin_24 rfl (lv_at hl 3 rfl) ?_
      refine nk_zeq (tgt := 39) hx hb hz3 dX1_begin_25 (by decide) (fun c25 => ?_) (fun c25 => ?_)
      · refine lv_iload hx hb dX1_begin_39 (lv_at hl 4 rfl) ?_
        refine lv_iconst (v := nI 0) hx hb dX1_begin_41 (by decide +kernel) ?_
        refine lv_ldc (v := nI 10000000) hx hb hown k57 dX1_begin_42 ?_
        refine nk_rd (W.runS (As := [.int p4, .int (nI 0), .int (nI 10000000)]) (rest := [.ref g0]) ⟨hx, hb, hml, hown, hts⟩ (c_X1_in l p4 (nI 0) (nI 10000000) z4 ((0 : Nat) : Int) ((10000000 : Nat) : Int) hz4 (nI_toInt (by omega)) (nI_toInt (by omega))) (va_cwS 3 hts gX1_begin_X1_in rfl rfl rfl (by decide +kernel) ⟨Nat.le_of_ble_eq_true rfl, Nat.le_of_ble_eq_true rfl⟩) ⟨nk_P0.blind, fun U hU hW => ⟨rfl, trivial⟩⟩ rfl rfl hl.1 rfl (lv_room (Nat.le_of_ble_eq_true rfl)) dX1_begin_44 ⟨Nat.zero_le _, Nat.zero_le _⟩) ?_
        refine W.eq (g2 := F0 m 47 ls [.int (nI (if ((0 : Nat) : Int) ≤ z4 ∧ z4 ≤ ((10000000 : Nat) : Int) then 1 else 0)), .ref g0]) rfl ?_
        refine nk_bif_eq (tgt := 54) hx hb dX1_begin_47 (by decide) (fun c47 => ?_) (fun c47 => ?_)
        · refine lv_iconst (v := nI 1) hx hb dX1_begin_54 (by decide +kernel) ?_
          refine va_put (D := D) (ci := 1) (v := .int (nI 1)) (ty := .int) (C := RX1) (T := TX1) (N := 16) hx hb hts hin tyX1 tyX1_ok nmX1 hown hK hP hD hS 0 rfl rfl 15 (by decide) f27 (fun _ h9 => h9) rfl (by decide +kernel) rfl rfl (Nat.le_of_ble_eq_true rfl) dX1_begin_55 (fun H locs hP hD hS => ?_)
          have hP : va_P D vwCl (wM g0 g1 g2 g3 g4 cI cJ d r gb w rm lc k dr pn pa pi 1 ga e2 b rt) H := hP
          have hD : va_D A (wM g0 g1 g2 g3 g4 cI cJ d r gb w rm lc k dr pn pa pi 1 ga e2 b rt) := hD
          refine lv_aload_n hx hb dX1_begin_58 rfl (lv_at hl 0 rfl) ?_
          refine va_get (D := D) (ci := 1) (v := .int (nI 1)) (C := RX1) (T := TX1) (N := 16) hx hb hts hin hown hK hP 0 rfl rfl 15 (by decide) f27 (fun _ h9 => h9) rfl dX1_begin_59 ?_
          refine nk_if_le (tgt := 67) hx hb (by omega) dX1_begin_62 (by decide) (fun c62 => ?_) (fun c62 => ?_)
          · exfalso; omega
          · refine lv_iconst (v := nI 0) hx hb dX1_begin_65 (by decide +kernel) ?_
            exact W.iret (v := (nI 0)) hx hb hr (fun t ht hW => ⟨⟨(nI 0), wM g0 g1 g2 g3 g4 cI cJ d r gb w rm lc k dr pn pa pi 1 ga e2 b rt, rfl, Or.inl ⟨by omega, rfl⟩, by rw [ht]; exact hP, va_K.moved hW.alike hK, hD⟩, hS.F ht⟩) hS.2.2 dX1_begin_66
        · refine lv_iconst (v := nI 0) hx hb dX1_begin_50 (by decide +kernel) ?_
          refine lv_goto (tgt := 55) hx hb dX1_begin_51 (by decide) ?_
          refine va_put (D := D) (ci := 1) (v := .int (nI 0)) (ty := .int) (C := RX1) (T := TX1) (N := 16) hx hb hts hin tyX1 tyX1_ok nmX1 hown hK hP hD hS 0 rfl rfl 15 (by decide) f27 (fun _ h9 => h9) rfl (by decide +kernel) rfl rfl (Nat.le_of_ble_eq_true rfl) dX1_begin_55 (fun H locs hP hD hS => ?_)
          have hP : va_P D vwCl (wM g0 g1 g2 g3 g4 cI cJ d r gb w rm lc k dr pn pa pi 0 ga e2 b rt) H := hP
          have hD : va_D A (wM g0 g1 g2 g3 g4 cI cJ d r gb w rm lc k dr pn pa pi 0 ga e2 b rt) := hD
          refine lv_aload_n hx hb dX1_begin_58 rfl (lv_at hl 0 rfl) ?_
          refine va_get (D := D) (ci := 1) (v := .int (nI 0)) (C := RX1) (T := TX1) (N := 16) hx hb hts hin hown hK hP 0 rfl rfl 15 (by decide) f27 (fun _ h9 => h9) rfl dX1_begin_59 ?_
          refine nk_if_le (tgt := 67) hx hb (by omega) dX1_begin_62 (by decide) (fun c62 => ?_) (fun c62 => ?_)
          · obtain ⟨rfl, ha1⟩ := hpa1 (by omega)
            have z1a : z1 = (a1 : Int) := by rw [← hz1]; exact nI_toInt (by omega)
            obtain ⟨rfl, ha2⟩ := hpa2 (by omega)
            have z2a : z2 = (a2 : Int) := by rw [← hz2]; exact nI_toInt (by omega)
            obtain ⟨rfl, ha3⟩ := hpa3 (by omega)
            have z3a : z3 = (a3 : Int) := by rw [← hz3]; exact nI_toInt (by omega)
            obtain ⟨rfl, ha4⟩ := hpa4 (by omega)
            have z4a : z4 = (a4 : Int) := by rw [← hz4]; exact nI_toInt (by omega)
            refine lv_aload_n hx hb dX1_begin_67 rfl (lv_at hl 0 rfl) ?_
            refine va_get (D := D) (ci := 1) (v := .int (nI gb)) (C := RX1) (T := TX1) (N := 16) hx hb hts hin hown hK hP 0 rfl rfl 2 (by decide) f33 (fun _ h9 => h9) rfl dX1_begin_68 ?_
            refine nk_if_le (tgt := 80) hx hb (by omega) dX1_begin_71 (by decide) (fun c71 => ?_) (fun c71 => ?_)
            · replace he20 := he20 c71
              replace he21 := he21 c71
              have he29 : ∀ j, j < 2 → e2 j ≤ 15001 := he28
              have hkz := hk0 c71
              refine lv_aload_n hx hb dX1_begin_80 rfl (lv_at hl 0 rfl) ?_
              refine lv_iload_n hx hb dX1_begin_81 rfl (lv_at hl 3 rfl) ?_
              refine nk_if_ne (tgt := 89) hx hb (by omega) dX1_begin_82 (by decide) (fun c82 => ?_) (fun c82 => ?_)
              · refine lv_iconst (v := nI 2) hx hb dX1_begin_89 (by decide +kernel) ?_
                refine va_put (D := D) (ci := 1) (v := .int (nI 2)) (ty := .int) (C := RX1) (T := TX1) (N := 16) hx hb hts hin tyX1 tyX1_ok nmX1 hown hK hP hD hS 0 rfl rfl 5 (by decide) f30 (fun _ h9 => h9) rfl (by decide +kernel) rfl rfl (Nat.le_of_ble_eq_true rfl) dX1_begin_90 (fun H locs hP hD hS => ?_)
                have hP : va_P D vwCl (wM g0 g1 g2 g3 g4 cI cJ d r gb w rm 2 k dr pn pa pi 0 ga e2 b rt) H := hP
                have hD : va_D A (wM g0 g1 g2 g3 g4 cI cJ d r gb w rm 2 k dr pn pa pi 0 ga e2 b rt) := hD
                refine lv_aload_n hx hb dX1_begin_93 rfl (lv_at hl 0 rfl) ?_
                refine va_get (D := D) (ci := 1) (v := .ref g1) (C := RX1) (T := TX1) (N := 16) hx hb hts hin hown hK hP 0 rfl rfl 6 (by decide) f13 (fun _ h9 => h9) rfl dX1_begin_94 ?_
                refine lv_iconst (v := nI 0) hx hb dX1_begin_97 (by decide +kernel) ?_
                refine lv_iload_n hx hb dX1_begin_98 rfl (lv_at hl 2 rfl) ?_
                refine nk_iast hx hb hK hP hD hS 1 0 rfl rfl (by omega) (by decide) dX1_begin_99 (fun H locs hP hD hS => ?_)
                have hP : va_P D vwCl (wM g0 g1 g2 g3 g4 cI cJ d r gb w rm 2 k dr pn pa pi 0 (va_up ga 0 a2) e2 b rt) H := hP
                have hD : va_D A (wM g0 g1 g2 g3 g4 cI cJ d r gb w rm 2 k dr pn pa pi 0 (va_up ga 0 a2) e2 b rt) := hD
                refine lv_aload_n hx hb dX1_begin_100 rfl (lv_at hl 0 rfl) ?_
                refine va_get (D := D) (ci := 1) (v := .ref g1) (C := RX1) (T := TX1) (N := 16) hx hb hts hin hown hK hP 0 rfl rfl 6 (by decide) f13 (fun _ h9 => h9) rfl dX1_begin_101 ?_
                refine lv_iconst (v := nI 1) hx hb dX1_begin_104 (by decide +kernel) ?_
                refine lv_iload_n hx hb dX1_begin_105 rfl (lv_at hl 3 rfl) ?_
                refine nk_iast hx hb hK hP hD hS 1 0 rfl rfl (by omega) (by decide) dX1_begin_106 (fun H locs hP hD hS => ?_)
                have hP : va_P D vwCl (wM g0 g1 g2 g3 g4 cI cJ d r gb w rm 2 k dr pn pa pi 0 (va_up (va_up ga 0 a2) 1 a3) e2 b rt) H := hP
                have hD : va_D A (wM g0 g1 g2 g3 g4 cI cJ d r gb w rm 2 k dr pn pa pi 0 (va_up (va_up ga 0 a2) 1 a3) e2 b rt) := hD
                refine lv_aload_n hx hb dX1_begin_107 rfl (lv_at hl 0 rfl) ?_
                refine lv_iload_n hx hb dX1_begin_108 rfl (lv_at hl 1 rfl) ?_
                have hga9 : ∀ j, j < 2 → 55 ≤ (va_up (va_up ga 0 a2) 1 a3) j ∧ (va_up (va_up ga 0 a2) 1 a3) j ≤ 95 := by
                  intro j hj
                  have hj2 : j = 0 ∨ j = 1 := by omega
                  rcases hj2 with rfl | rfl
                  · show 55 ≤ (if 0 = 1 then a3 else if 0 = 0 then a2 else ga 0) ∧ (if 0 = 1 then a3 else if 0 = 0 then a2 else ga 0) ≤ 95
                    simp only [if_neg (show ¬ (0 = 1) by decide), if_true]
                    omega
                  · show 55 ≤ (if 1 = 1 then a3 else _) ∧ (if 1 = 1 then a3 else _) ≤ 95
                    simp only [if_true]
                    omega
                have hal9 : 0 < alive e2 2 := by simp [alive, he20, he21]
                have hls9 : lstA (va_up (va_up ga 0 a2) 1 a3) e2 2 = min a2 a3 + 1 := by rw [lst_2 he20 he21]; rfl
                refine nk_rd (W.runV (As := [.int (nI a1)]) (rest := []) ⟨hx, hb, hml, hown, hts⟩ (c_X1_greatest l D g0 g1 g2 g3 g4 cI cJ d r gb w rm 2 k dr pn pa pi 0 (va_up (va_up ga 0 a2) 1 a3) e2 b rt a1 (by omega) hal9 (by omega) (fun j hj => he29 j (by omega)) hga9 hd) (cwV 1 hts gX1_begin_X1_greatest rfl rfl rfl (by decide +kernel) ⟨Nat.le_of_ble_eq_true rfl, Nat.le_of_ble_eq_true rfl⟩) ⟨nk_Pr.blind, va_recv hK hP (ci := 1) (q0 := 0) rfl rfl, fun U hU hW => ⟨rfl, by rw [hU]; exact hP, va_K.moved hW.alike hK⟩⟩ rfl rfl hl.1 rfl (lv_room (Nat.le_of_ble_eq_true rfl)) dX1_begin_109 ⟨Nat.zero_le _, Nat.zero_le _⟩) ?_
                refine W.eq (g2 := F0 m 112 ls [.int (nI (gL a1 (lstA (va_up (va_up ga 0 a2) 1 a3) e2 2 - 1 + d / 365)))]) rfl ?_
                refine nk_topi (y := (nI (gL a1 (min a2 a3 + d / 365)))) (by rw [hls9, Nat.add_sub_cancel]) ?_
                have hg9 : gL a1 (min a2 a3 + d / 365) ≤ 5500000 := gL_le (by omega)
                refine lv_istore (lv' := [(5, .int (nI (gL a1 (min a2 a3 + d / 365)))), (0, .ref g0), (1, .int (nI a1)), (2, .int (nI a2)), (3, .int (nI a3)), (4, .int (nI a4))]) hx hb dX1_begin_112 hl (by decide) rfl (fun ls hl => ?_)
                refine lv_iload hx hb dX1_begin_114 (lv_at hl 5 rfl) ?_
                refine lv_iload hx hb dX1_begin_116 (lv_at hl 0 rfl) ?_
                refine nk_icmp_le (tgt := 132) hx hb (by omega) (by omega) dX1_begin_118 (by decide) (fun c118 => ?_) (fun c118 => ?_)
                · refine lv_aload_n hx hb dX1_begin_132 rfl (lv_at hl 1 rfl) ?_
                  refine lv_aload_n hx hb dX1_begin_133 rfl (lv_at hl 1 rfl) ?_
                  refine va_get (D := D) (ci := 1) (v := .int (nI d)) (C := RX1) (T := TX1) (N := 16) hx hb hts hin hown hK hP 0 rfl rfl 0 (by decide) f40 (fun _ h9 => h9) rfl dX1_begin_134 ?_
                  refine lv_iconst (v := nI 1) hx hb dX1_begin_137 (by decide +kernel) ?_
                  refine nk_iadd hx hb dX1_begin_138 ?_
                  refine va_put (D := D) (ci := 1) (v := .int (nI (d + 1))) (ty := .int) (C := RX1) (T := TX1) (N := 16) hx hb hts hin tyX1 tyX1_ok nmX1 hown hK hP hD hS 0 rfl rfl 2 (by decide) f33 (fun _ h9 => h9) rfl (by decide +kernel) rfl rfl (Nat.le_of_ble_eq_true rfl) dX1_begin_139 (fun H locs hP hD hS => ?_)
                  have hP : va_P D vwCl (wM g0 g1 g2 g3 g4 cI cJ d r (d + 1) w rm 2 k dr pn pa pi 0 (va_up (va_up ga 0 a2) 1 a3) e2 b rt) H := hP
                  have hD : va_D A (wM g0 g1 g2 g3 g4 cI cJ d r (d + 1) w rm 2 k dr pn pa pi 0 (va_up (va_up ga 0 a2) 1 a3) e2 b rt) := hD
                  refine lv_aload_n hx hb dX1_begin_142 rfl (lv_at hl 1 rfl) ?_
                  refine lv_iload_n hx hb dX1_begin_143 rfl (lv_at hl 2 rfl) ?_
                  refine va_put (D := D) (ci := 1) (v := .int (nI a1)) (ty := .int) (C := RX1) (T := TX1) (N := 16) hx hb hts hin tyX1 tyX1_ok nmX1 hown hK hP hD hS 0 rfl rfl 3 (by decide) f69 (fun _ h9 => h9) rfl (by decide +kernel) rfl rfl (Nat.le_of_ble_eq_true rfl) dX1_begin_144 (fun H locs hP hD hS => ?_)
                  have hP : va_P D vwCl (wM g0 g1 g2 g3 g4 cI cJ d r (d + 1) a1 rm 2 k dr pn pa pi 0 (va_up (va_up ga 0 a2) 1 a3) e2 b rt) H := hP
                  have hD : va_D A (wM g0 g1 g2 g3 g4 cI cJ d r (d + 1) a1 rm 2 k dr pn pa pi 0 (va_up (va_up ga 0 a2) 1 a3) e2 b rt) := hD
                  refine lv_aload_n hx hb dX1_begin_147 rfl (lv_at hl 1 rfl) ?_
                  refine lv_iload hx hb dX1_begin_148 (lv_at hl 0 rfl) ?_
                  refine lv_iload hx hb dX1_begin_150 (lv_at hl 5 rfl) ?_
                  refine nk_isub hx hb (by omega) dX1_begin_152 ?_
                  refine va_put (D := D) (ci := 1) (v := .int (nI ((gL a1 (min a2 a3 + d / 365)) - a4))) (ty := .int) (C := RX1) (T := TX1) (N := 16) hx hb hts hin tyX1 tyX1_ok nmX1 hown hK hP hD hS 0 rfl rfl 4 (by decide) f72 (fun _ h9 => h9) rfl (by decide +kernel) rfl rfl (Nat.le_of_ble_eq_true rfl) dX1_begin_153 (fun H locs hP hD hS => ?_)
                  have hP : va_P D vwCl (wM g0 g1 g2 g3 g4 cI cJ d r (d + 1) a1 ((gL a1 (min a2 a3 + d / 365)) - a4) 2 k dr pn pa pi 0 (va_up (va_up ga 0 a2) 1 a3) e2 b rt) H := hP
                  have hD : va_D A (wM g0 g1 g2 g3 g4 cI cJ d r (d + 1) a1 ((gL a1 (min a2 a3 + d / 365)) - a4) 2 k dr pn pa pi 0 (va_up (va_up ga 0 a2) 1 a3) e2 b rt) := hD
                  refine lv_iload hx hb dX1_begin_156 (lv_at hl 5 rfl) ?_
                  refine nk_if_le (tgt := 167) hx hb (by omega) dX1_begin_158 (by decide) (fun c158 => ?_) (fun c158 => ?_)
                  · refine lv_aload_n hx hb dX1_begin_167 rfl (lv_at hl 1 rfl) ?_
                    refine va_get (D := D) (ci := 1) (v := .int (nI ((gL a1 (min a2 a3 + d / 365)) - a4))) (C := RX1) (T := TX1) (N := 16) hx hb hts hin hown hK hP 0 rfl rfl 4 (by decide) f72 (fun _ h9 => h9) rfl dX1_begin_168 ?_
                    exact W.iret (v := (nI ((gL a1 (min a2 a3 + d / 365)) - a4))) hx hb hr (fun t ht hW => ⟨⟨(nI ((gL a1 (min a2 a3 + d / 365)) - a4)), wM g0 g1 g2 g3 g4 cI cJ d r (d + 1) a1 ((gL a1 (min a2 a3 + d / 365)) - a4) 2 k dr pn pa pi 0 (va_up (va_up ga 0 a2) 1 a3) e2 b rt, rfl, Or.inr (Or.inr ⟨by omega, by omega, Or.inr (Or.inr (Or.inl ⟨by omega, by omega, by omega, rfl, rfl⟩))⟩), by rw [ht]; exact hP, va_K.moved hW.alike hK, hD⟩, hS.F ht⟩) hS.2.2 dX1_begin_171
                  · refine lv_aload_n hx hb dX1_begin_161 rfl (lv_at hl 1 rfl) ?_
                    refine lv_iload hx hb dX1_begin_162 (lv_at hl 5 rfl) ?_
                    refine nk_vcall (wr := []) (va_runV (As := [.int (nI a4)]) (rest := []) ⟨hx, hb, hml, hown, hts⟩ (c_X1_draws l D g0 g1 g2 g3 g4 cI cJ d r (d + 1) a1 ((gL a1 (min a2 a3 + d / 365)) - a4) 2 k dr pn pa pi 0 (va_up (va_up ga 0 a2) 1 a3) e2 b rt H.size a4 (by omega) (by omega)) (cwV 1 hts gX1_begin_X1_draws rfl rfl rfl (by decide +kernel) ⟨Nat.le_of_ble_eq_true rfl, Nat.le_of_ble_eq_true rfl⟩) ⟨nk_Pw.blind, va_recv hK hP (ci := 1) (q0 := 0) rfl rfl, fun U hU hW => ⟨rfl, by rw [hU], by rw [hU]; exact hP, va_K.moved hW.alike hK, hD.weaken (fun _ _ _ _ => trivial)⟩⟩ rfl rfl hl.1 rfl (lv_room (Nat.le_of_ble_eq_true rfl)) dX1_begin_164 ⟨Nat.zero_le _, Nat.zero_le _⟩) hP hD hS hA [0, 1, 2, 3, 4] [] rfl rfl rfl (by decide) (fun w1 H locs hw hP hD hS hk9 => ?_)
                    subst hw
                    have hP : va_P D vwCl (wM g0 g1 g2 g3 g4 cI cJ d r (d + 1) a1 ((gL a1 (min a2 a3 + d / 365)) - a4) 2 (k + 1) (dr + a4) pn pa pi 0 (va_up (va_up ga 0 a2) 1 a3) e2 (va_up b k (a4 * 10000)) (va_up rt k r)) H := hP
                    have hD : va_D A (wM g0 g1 g2 g3 g4 cI cJ d r (d + 1) a1 ((gL a1 (min a2 a3 + d / 365)) - a4) 2 (k + 1) (dr + a4) pn pa pi 0 (va_up (va_up ga 0 a2) 1 a3) e2 (va_up b k (a4 * 10000)) (va_up rt k r)) := hD
                    refine lv_aload_n hx hb dX1_begin_167 rfl (lv_at hl 1 rfl) ?_
                    refine va_get (D := D) (ci := 1) (v := .int (nI ((gL a1 (min a2 a3 + d / 365)) - a4))) (C := RX1) (T := TX1) (N := 16) hx hb hts hin hown hK hP 0 rfl rfl 4 (by decide) f72 (fun _ h9 => h9) rfl dX1_begin_168 ?_
                    exact W.iret (v := (nI ((gL a1 (min a2 a3 + d / 365)) - a4))) hx hb hr (fun t ht hW => ⟨⟨(nI ((gL a1 (min a2 a3 + d / 365)) - a4)), wM g0 g1 g2 g3 g4 cI cJ d r (d + 1) a1 ((gL a1 (min a2 a3 + d / 365)) - a4) 2 (k + 1) (dr + a4) pn pa pi 0 (va_up (va_up ga 0 a2) 1 a3) e2 (va_up b k (a4 * 10000)) (va_up rt k r), rfl, Or.inr (Or.inr ⟨by omega, by omega, Or.inr (Or.inr (Or.inr (⟨by omega, by omega, by omega, rfl, rfl⟩)))⟩), by rw [ht]; exact hP, va_K.moved hW.alike hK, hD⟩, hS.F ht⟩) hS.2.2 dX1_begin_171
                · refine lv_aload_n hx hb dX1_begin_121 rfl (lv_at hl 1 rfl) ?_
                  refine lv_iconst (v := nI 0) hx hb dX1_begin_122 (by decide +kernel) ?_
                  refine va_put (D := D) (ci := 1) (v := .int (nI 0)) (ty := .int) (C := RX1) (T := TX1) (N := 16) hx hb hts hin tyX1 tyX1_ok nmX1 hown hK hP hD hS 0 rfl rfl 5 (by decide) f30 (fun _ h9 => h9) rfl (by decide +kernel) rfl rfl (Nat.le_of_ble_eq_true rfl) dX1_begin_123 (fun H locs hP hD hS => ?_)
                  have hP : va_P D vwCl (wM g0 g1 g2 g3 g4 cI cJ d r gb w rm 0 k dr pn pa pi 0 (va_up (va_up ga 0 a2) 1 a3) e2 b rt) H := hP
                  have hD : va_D A (wM g0 g1 g2 g3 g4 cI cJ d r gb w rm 0 k dr pn pa pi 0 (va_up (va_up ga 0 a2) 1 a3) e2 b rt) := hD
                  refine lv_aload_n hx hb dX1_begin_126 rfl (lv_at hl 1 rfl) ?_
                  refine lv_iconst (v := nI 2) hx hb dX1_begin_127 (by decide +kernel) ?_
                  refine nk_icall (wr := []) (va_runV (As := [.int (nI 2)]) (rest := []) ⟨hx, hb, hml, hown, hts⟩ (c_X1_fails l D g0 g1 g2 g3 g4 cI cJ d r gb w rm 0 k dr pn pa pi 0 (va_up (va_up ga 0 a2) 1 a3) e2 b rt H.size 2) (cwV 1 hts gX1_begin_X1_fails rfl rfl rfl (by decide +kernel) ⟨Nat.le_of_ble_eq_true rfl, Nat.le_of_ble_eq_true rfl⟩) ⟨nk_Pw.blind, va_recv hK hP (ci := 1) (q0 := 0) rfl rfl, fun U hU hW => ⟨rfl, by rw [hU], by rw [hU]; exact hP, va_K.moved hW.alike hK, hD.weaken (fun _ _ _ _ => trivial)⟩⟩ rfl rfl hl.1 rfl (lv_room (Nat.le_of_ble_eq_true rfl)) dX1_begin_128 ⟨Nat.zero_le _, Nat.zero_le _⟩) hP hD hS hA [0, 1, 2, 3, 4] [] rfl rfl rfl (by decide) (fun r128 w1 H locs hw hP hD hS hk9 => ?_)
                  obtain ⟨hv9, rfl⟩ := hw
                  subst hv9
                  have hP : va_P D vwCl (wM g0 g1 g2 g3 g4 cI cJ d r gb w rm 0 k dr pn pa pi 2 (va_up (va_up ga 0 a2) 1 a3) e2 b rt) H := hP
                  have hD : va_D A (wM g0 g1 g2 g3 g4 cI cJ d r gb w rm 0 k dr pn pa pi 2 (va_up (va_up ga 0 a2) 1 a3) e2 b rt) := hD
                  exact W.iret (v := (nI 0)) hx hb hr (fun t ht hW => ⟨⟨(nI 0), wM g0 g1 g2 g3 g4 cI cJ d r gb w rm 0 k dr pn pa pi 2 (va_up (va_up ga 0 a2) 1 a3) e2 b rt, rfl, Or.inr (Or.inl ⟨by omega, Or.inr ⟨by omega, Or.inr ⟨by omega, by omega⟩, rfl⟩⟩), by rw [ht]; exact hP, va_K.moved hW.alike hK, hD⟩, hS.F ht⟩) hS.2.2 dX1_begin_131
              · refine lv_iconst (v := nI 1) hx hb dX1_begin_85 (by decide +kernel) ?_
                refine lv_goto (tgt := 90) hx hb dX1_begin_86 (by decide) ?_
                refine va_put (D := D) (ci := 1) (v := .int (nI 1)) (ty := .int) (C := RX1) (T := TX1) (N := 16) hx hb hts hin tyX1 tyX1_ok nmX1 hown hK hP hD hS 0 rfl rfl 5 (by decide) f30 (fun _ h9 => h9) rfl (by decide +kernel) rfl rfl (Nat.le_of_ble_eq_true rfl) dX1_begin_90 (fun H locs hP hD hS => ?_)
                have hP : va_P D vwCl (wM g0 g1 g2 g3 g4 cI cJ d r gb w rm 1 k dr pn pa pi 0 ga e2 b rt) H := hP
                have hD : va_D A (wM g0 g1 g2 g3 g4 cI cJ d r gb w rm 1 k dr pn pa pi 0 ga e2 b rt) := hD
                refine lv_aload_n hx hb dX1_begin_93 rfl (lv_at hl 0 rfl) ?_
                refine va_get (D := D) (ci := 1) (v := .ref g1) (C := RX1) (T := TX1) (N := 16) hx hb hts hin hown hK hP 0 rfl rfl 6 (by decide) f13 (fun _ h9 => h9) rfl dX1_begin_94 ?_
                refine lv_iconst (v := nI 0) hx hb dX1_begin_97 (by decide +kernel) ?_
                refine lv_iload_n hx hb dX1_begin_98 rfl (lv_at hl 2 rfl) ?_
                refine nk_iast hx hb hK hP hD hS 1 0 rfl rfl (by omega) (by decide) dX1_begin_99 (fun H locs hP hD hS => ?_)
                have hP : va_P D vwCl (wM g0 g1 g2 g3 g4 cI cJ d r gb w rm 1 k dr pn pa pi 0 (va_up ga 0 a2) e2 b rt) H := hP
                have hD : va_D A (wM g0 g1 g2 g3 g4 cI cJ d r gb w rm 1 k dr pn pa pi 0 (va_up ga 0 a2) e2 b rt) := hD
                refine lv_aload_n hx hb dX1_begin_100 rfl (lv_at hl 0 rfl) ?_
                refine va_get (D := D) (ci := 1) (v := .ref g1) (C := RX1) (T := TX1) (N := 16) hx hb hts hin hown hK hP 0 rfl rfl 6 (by decide) f13 (fun _ h9 => h9) rfl dX1_begin_101 ?_
                refine lv_iconst (v := nI 1) hx hb dX1_begin_104 (by decide +kernel) ?_
                refine lv_iload_n hx hb dX1_begin_105 rfl (lv_at hl 3 rfl) ?_
                refine nk_iast hx hb hK hP hD hS 1 0 rfl rfl (by omega) (by decide) dX1_begin_106 (fun H locs hP hD hS => ?_)
                have hP : va_P D vwCl (wM g0 g1 g2 g3 g4 cI cJ d r gb w rm 1 k dr pn pa pi 0 (va_up (va_up ga 0 a2) 1 a3) e2 b rt) H := hP
                have hD : va_D A (wM g0 g1 g2 g3 g4 cI cJ d r gb w rm 1 k dr pn pa pi 0 (va_up (va_up ga 0 a2) 1 a3) e2 b rt) := hD
                refine lv_aload_n hx hb dX1_begin_107 rfl (lv_at hl 0 rfl) ?_
                refine lv_iload_n hx hb dX1_begin_108 rfl (lv_at hl 1 rfl) ?_
                have hga9 : ∀ j, j < 1 → 55 ≤ (va_up (va_up ga 0 a2) 1 a3) j ∧ (va_up (va_up ga 0 a2) 1 a3) j ≤ 95 := by
                  intro j hj
                  have hj2 : j = 0 ∨ j = 1 := by omega
                  rcases hj2 with rfl | rfl
                  · show 55 ≤ (if 0 = 1 then a3 else if 0 = 0 then a2 else ga 0) ∧ (if 0 = 1 then a3 else if 0 = 0 then a2 else ga 0) ≤ 95
                    simp only [if_neg (show ¬ (0 = 1) by decide), if_true]
                    omega
                  · show 55 ≤ (if 1 = 1 then a3 else _) ∧ (if 1 = 1 then a3 else _) ≤ 95
                    simp only [if_true]
                    omega
                have hal9 : 0 < alive e2 1 := by simp [alive, he20, he21]
                have hls9 : lstA (va_up (va_up ga 0 a2) 1 a3) e2 1 = a2 + 1 := by rw [lst_1 he20]; rfl
                refine nk_rd (W.runV (As := [.int (nI a1)]) (rest := []) ⟨hx, hb, hml, hown, hts⟩ (c_X1_greatest l D g0 g1 g2 g3 g4 cI cJ d r gb w rm 1 k dr pn pa pi 0 (va_up (va_up ga 0 a2) 1 a3) e2 b rt a1 (by omega) hal9 (by omega) (fun j hj => he29 j (by omega)) hga9 hd) (cwV 1 hts gX1_begin_X1_greatest rfl rfl rfl (by decide +kernel) ⟨Nat.le_of_ble_eq_true rfl, Nat.le_of_ble_eq_true rfl⟩) ⟨nk_Pr.blind, va_recv hK hP (ci := 1) (q0 := 0) rfl rfl, fun U hU hW => ⟨rfl, by rw [hU]; exact hP, va_K.moved hW.alike hK⟩⟩ rfl rfl hl.1 rfl (lv_room (Nat.le_of_ble_eq_true rfl)) dX1_begin_109 ⟨Nat.zero_le _, Nat.zero_le _⟩) ?_
                refine W.eq (g2 := F0 m 112 ls [.int (nI (gL a1 (lstA (va_up (va_up ga 0 a2) 1 a3) e2 1 - 1 + d / 365)))]) rfl ?_
                refine nk_topi (y := (nI (gL a1 (a2 + d / 365)))) (by rw [hls9, Nat.add_sub_cancel]) ?_
                have hg9 : gL a1 (a2 + d / 365) ≤ 5500000 := gL_le (by omega)
                refine lv_istore (lv' := [(5, .int (nI (gL a1 (a2 + d / 365)))), (0, .ref g0), (1, .int (nI a1)), (2, .int (nI a2)), (3, .int (nI a3)), (4, .int (nI a4))]) hx hb dX1_begin_112 hl (by decide) rfl (fun ls hl => ?_)
                refine lv_iload hx hb dX1_begin_114 (lv_at hl 5 rfl) ?_
                refine lv_iload hx hb dX1_begin_116 (lv_at hl 0 rfl) ?_
                refine nk_icmp_le (tgt := 132) hx hb (by omega) (by omega) dX1_begin_118 (by decide) (fun c118 => ?_) (fun c118 => ?_)
                · refine lv_aload_n hx hb dX1_begin_132 rfl (lv_at hl 1 rfl) ?_
                  refine lv_aload_n hx hb dX1_begin_133 rfl (lv_at hl 1 rfl) ?_
                  refine va_get (D := D) (ci := 1) (v := .int (nI d)) (C := RX1) (T := TX1) (N := 16) hx hb hts hin hown hK hP 0 rfl rfl 0 (by decide) f40 (fun _ h9 => h9) rfl dX1_begin_134 ?_
                  refine lv_iconst (v := nI 1) hx hb dX1_begin_137 (by decide +kernel) ?_
                  refine nk_iadd hx hb dX1_begin_138 ?_
                  refine va_put (D := D) (ci := 1) (v := .int (nI (d + 1))) (ty := .int) (C := RX1) (T := TX1) (N := 16) hx hb hts hin tyX1 tyX1_ok nmX1 hown hK hP hD hS 0 rfl rfl 2 (by decide) f33 (fun _ h9 => h9) rfl (by decide +kernel) rfl rfl (Nat.le_of_ble_eq_true rfl) dX1_begin_139 (fun H locs hP hD hS => ?_)
                  have hP : va_P D vwCl (wM g0 g1 g2 g3 g4 cI cJ d r (d + 1) w rm 1 k dr pn pa pi 0 (va_up (va_up ga 0 a2) 1 a3) e2 b rt) H := hP
                  have hD : va_D A (wM g0 g1 g2 g3 g4 cI cJ d r (d + 1) w rm 1 k dr pn pa pi 0 (va_up (va_up ga 0 a2) 1 a3) e2 b rt) := hD
                  refine lv_aload_n hx hb dX1_begin_142 rfl (lv_at hl 1 rfl) ?_
                  refine lv_iload_n hx hb dX1_begin_143 rfl (lv_at hl 2 rfl) ?_
                  refine va_put (D := D) (ci := 1) (v := .int (nI a1)) (ty := .int) (C := RX1) (T := TX1) (N := 16) hx hb hts hin tyX1 tyX1_ok nmX1 hown hK hP hD hS 0 rfl rfl 3 (by decide) f69 (fun _ h9 => h9) rfl (by decide +kernel) rfl rfl (Nat.le_of_ble_eq_true rfl) dX1_begin_144 (fun H locs hP hD hS => ?_)
                  have hP : va_P D vwCl (wM g0 g1 g2 g3 g4 cI cJ d r (d + 1) a1 rm 1 k dr pn pa pi 0 (va_up (va_up ga 0 a2) 1 a3) e2 b rt) H := hP
                  have hD : va_D A (wM g0 g1 g2 g3 g4 cI cJ d r (d + 1) a1 rm 1 k dr pn pa pi 0 (va_up (va_up ga 0 a2) 1 a3) e2 b rt) := hD
                  refine lv_aload_n hx hb dX1_begin_147 rfl (lv_at hl 1 rfl) ?_
                  refine lv_iload hx hb dX1_begin_148 (lv_at hl 0 rfl) ?_
                  refine lv_iload hx hb dX1_begin_150 (lv_at hl 5 rfl) ?_
                  refine nk_isub hx hb (by omega) dX1_begin_152 ?_
                  refine va_put (D := D) (ci := 1) (v := .int (nI ((gL a1 (a2 + d / 365)) - a4))) (ty := .int) (C := RX1) (T := TX1) (N := 16) hx hb hts hin tyX1 tyX1_ok nmX1 hown hK hP hD hS 0 rfl rfl 4 (by decide) f72 (fun _ h9 => h9) rfl (by decide +kernel) rfl rfl (Nat.le_of_ble_eq_true rfl) dX1_begin_153 (fun H locs hP hD hS => ?_)
                  have hP : va_P D vwCl (wM g0 g1 g2 g3 g4 cI cJ d r (d + 1) a1 ((gL a1 (a2 + d / 365)) - a4) 1 k dr pn pa pi 0 (va_up (va_up ga 0 a2) 1 a3) e2 b rt) H := hP
                  have hD : va_D A (wM g0 g1 g2 g3 g4 cI cJ d r (d + 1) a1 ((gL a1 (a2 + d / 365)) - a4) 1 k dr pn pa pi 0 (va_up (va_up ga 0 a2) 1 a3) e2 b rt) := hD
                  refine lv_iload hx hb dX1_begin_156 (lv_at hl 5 rfl) ?_
                  refine nk_if_le (tgt := 167) hx hb (by omega) dX1_begin_158 (by decide) (fun c158 => ?_) (fun c158 => ?_)
                  · refine lv_aload_n hx hb dX1_begin_167 rfl (lv_at hl 1 rfl) ?_
                    refine va_get (D := D) (ci := 1) (v := .int (nI ((gL a1 (a2 + d / 365)) - a4))) (C := RX1) (T := TX1) (N := 16) hx hb hts hin hown hK hP 0 rfl rfl 4 (by decide) f72 (fun _ h9 => h9) rfl dX1_begin_168 ?_
                    exact W.iret (v := (nI ((gL a1 (a2 + d / 365)) - a4))) hx hb hr (fun t ht hW => ⟨⟨(nI ((gL a1 (a2 + d / 365)) - a4)), wM g0 g1 g2 g3 g4 cI cJ d r (d + 1) a1 ((gL a1 (a2 + d / 365)) - a4) 1 k dr pn pa pi 0 (va_up (va_up ga 0 a2) 1 a3) e2 b rt, rfl, Or.inr (Or.inr ⟨by omega, by omega, Or.inl ⟨by omega, by omega, by omega, rfl, rfl⟩⟩), by rw [ht]; exact hP, va_K.moved hW.alike hK, hD⟩, hS.F ht⟩) hS.2.2 dX1_begin_171
                  · refine lv_aload_n hx hb dX1_begin_161 rfl (lv_at hl 1 rfl) ?_
                    refine lv_iload hx hb dX1_begin_162 (lv_at hl 5 rfl) ?_
                    refine nk_vcall (wr := []) (va_runV (As := [.int (nI a4)]) (rest := []) ⟨hx, hb, hml, hown, hts⟩ (c_X1_draws l D g0 g1 g2 g3 g4 cI cJ d r (d + 1) a1 ((gL a1 (a2 + d / 365)) - a4) 1 k dr pn pa pi 0 (va_up (va_up ga 0 a2) 1 a3) e2 b rt H.size a4 (by omega) (by omega)) (cwV 1 hts gX1_begin_X1_draws rfl rfl rfl (by decide +kernel) ⟨Nat.le_of_ble_eq_true rfl, Nat.le_of_ble_eq_true rfl⟩) ⟨nk_Pw.blind, va_recv hK hP (ci := 1) (q0 := 0) rfl rfl, fun U hU hW => ⟨rfl, by rw [hU], by rw [hU]; exact hP, va_K.moved hW.alike hK, hD.weaken (fun _ _ _ _ => trivial)⟩⟩ rfl rfl hl.1 rfl (lv_room (Nat.le_of_ble_eq_true rfl)) dX1_begin_164 ⟨Nat.zero_le _, Nat.zero_le _⟩) hP hD hS hA [0, 1, 2, 3, 4] [] rfl rfl rfl (by decide) (fun w1 H locs hw hP hD hS hk9 => ?_)
                    subst hw
                    have hP : va_P D vwCl (wM g0 g1 g2 g3 g4 cI cJ d r (d + 1) a1 ((gL a1 (a2 + d / 365)) - a4) 1 (k + 1) (dr + a4) pn pa pi 0 (va_up (va_up ga 0 a2) 1 a3) e2 (va_up b k (a4 * 10000)) (va_up rt k r)) H := hP
                    have hD : va_D A (wM g0 g1 g2 g3 g4 cI cJ d r (d + 1) a1 ((gL a1 (a2 + d / 365)) - a4) 1 (k + 1) (dr + a4) pn pa pi 0 (va_up (va_up ga 0 a2) 1 a3) e2 (va_up b k (a4 * 10000)) (va_up rt k r)) := hD
                    refine lv_aload_n hx hb dX1_begin_167 rfl (lv_at hl 1 rfl) ?_
                    refine va_get (D := D) (ci := 1) (v := .int (nI ((gL a1 (a2 + d / 365)) - a4))) (C := RX1) (T := TX1) (N := 16) hx hb hts hin hown hK hP 0 rfl rfl 4 (by decide) f72 (fun _ h9 => h9) rfl dX1_begin_168 ?_
                    exact W.iret (v := (nI ((gL a1 (a2 + d / 365)) - a4))) hx hb hr (fun t ht hW => ⟨⟨(nI ((gL a1 (a2 + d / 365)) - a4)), wM g0 g1 g2 g3 g4 cI cJ d r (d + 1) a1 ((gL a1 (a2 + d / 365)) - a4) 1 (k + 1) (dr + a4) pn pa pi 0 (va_up (va_up ga 0 a2) 1 a3) e2 (va_up b k (a4 * 10000)) (va_up rt k r), rfl, Or.inr (Or.inr ⟨by omega, by omega, Or.inr (Or.inl ⟨by omega, by omega, by omega, rfl, rfl⟩)⟩), by rw [ht]; exact hP, va_K.moved hW.alike hK, hD⟩, hS.F ht⟩) hS.2.2 dX1_begin_171
                · refine lv_aload_n hx hb dX1_begin_121 rfl (lv_at hl 1 rfl) ?_
                  refine lv_iconst (v := nI 0) hx hb dX1_begin_122 (by decide +kernel) ?_
                  refine va_put (D := D) (ci := 1) (v := .int (nI 0)) (ty := .int) (C := RX1) (T := TX1) (N := 16) hx hb hts hin tyX1 tyX1_ok nmX1 hown hK hP hD hS 0 rfl rfl 5 (by decide) f30 (fun _ h9 => h9) rfl (by decide +kernel) rfl rfl (Nat.le_of_ble_eq_true rfl) dX1_begin_123 (fun H locs hP hD hS => ?_)
                  have hP : va_P D vwCl (wM g0 g1 g2 g3 g4 cI cJ d r gb w rm 0 k dr pn pa pi 0 (va_up (va_up ga 0 a2) 1 a3) e2 b rt) H := hP
                  have hD : va_D A (wM g0 g1 g2 g3 g4 cI cJ d r gb w rm 0 k dr pn pa pi 0 (va_up (va_up ga 0 a2) 1 a3) e2 b rt) := hD
                  refine lv_aload_n hx hb dX1_begin_126 rfl (lv_at hl 1 rfl) ?_
                  refine lv_iconst (v := nI 2) hx hb dX1_begin_127 (by decide +kernel) ?_
                  refine nk_icall (wr := []) (va_runV (As := [.int (nI 2)]) (rest := []) ⟨hx, hb, hml, hown, hts⟩ (c_X1_fails l D g0 g1 g2 g3 g4 cI cJ d r gb w rm 0 k dr pn pa pi 0 (va_up (va_up ga 0 a2) 1 a3) e2 b rt H.size 2) (cwV 1 hts gX1_begin_X1_fails rfl rfl rfl (by decide +kernel) ⟨Nat.le_of_ble_eq_true rfl, Nat.le_of_ble_eq_true rfl⟩) ⟨nk_Pw.blind, va_recv hK hP (ci := 1) (q0 := 0) rfl rfl, fun U hU hW => ⟨rfl, by rw [hU], by rw [hU]; exact hP, va_K.moved hW.alike hK, hD.weaken (fun _ _ _ _ => trivial)⟩⟩ rfl rfl hl.1 rfl (lv_room (Nat.le_of_ble_eq_true rfl)) dX1_begin_128 ⟨Nat.zero_le _, Nat.zero_le _⟩) hP hD hS hA [0, 1, 2, 3, 4] [] rfl rfl rfl (by decide) (fun r128 w1 H locs hw hP hD hS hk9 => ?_)
                  obtain ⟨hv9, rfl⟩ := hw
                  subst hv9
                  have hP : va_P D vwCl (wM g0 g1 g2 g3 g4 cI cJ d r gb w rm 0 k dr pn pa pi 2 (va_up (va_up ga 0 a2) 1 a3) e2 b rt) H := hP
                  have hD : va_D A (wM g0 g1 g2 g3 g4 cI cJ d r gb w rm 0 k dr pn pa pi 2 (va_up (va_up ga 0 a2) 1 a3) e2 b rt) := hD
                  exact W.iret (v := (nI 0)) hx hb hr (fun t ht hW => ⟨⟨(nI 0), wM g0 g1 g2 g3 g4 cI cJ d r gb w rm 0 k dr pn pa pi 2 (va_up (va_up ga 0 a2) 1 a3) e2 b rt, rfl, Or.inr (Or.inl ⟨by omega, Or.inr ⟨by omega, Or.inl ⟨by omega, by omega⟩, rfl⟩⟩), by rw [ht]; exact hP, va_K.moved hW.alike hK, hD⟩, hS.F ht⟩) hS.2.2 dX1_begin_131
            · refine lv_aload_n hx hb dX1_begin_74 rfl (lv_at hl 0 rfl) ?_
              refine lv_iconst (v := nI 2) hx hb dX1_begin_75 (by decide +kernel) ?_
              refine nk_icall (wr := []) (va_runV (As := [.int (nI 2)]) (rest := []) ⟨hx, hb, hml, hown, hts⟩ (c_X1_fails l D g0 g1 g2 g3 g4 cI cJ d r gb w rm lc k dr pn pa pi 0 ga e2 b rt H.size 2) (cwV 1 hts gX1_begin_X1_fails rfl rfl rfl (by decide +kernel) ⟨Nat.le_of_ble_eq_true rfl, Nat.le_of_ble_eq_true rfl⟩) ⟨nk_Pw.blind, va_recv hK hP (ci := 1) (q0 := 0) rfl rfl, fun U hU hW => ⟨rfl, by rw [hU], by rw [hU]; exact hP, va_K.moved hW.alike hK, hD.weaken (fun _ _ _ _ => trivial)⟩⟩ rfl rfl hl.1 rfl (lv_room (Nat.le_of_ble_eq_true rfl)) dX1_begin_76 ⟨Nat.zero_le _, Nat.zero_le _⟩) hP hD hS hA [0, 1, 2, 3, 4] [] rfl rfl rfl (by decide) (fun r76 w1 H locs hw hP hD hS hk9 => ?_)
              obtain ⟨hv9, rfl⟩ := hw
              subst hv9
              have hP : va_P D vwCl (wM g0 g1 g2 g3 g4 cI cJ d r gb w rm lc k dr pn pa pi 2 ga e2 b rt) H := hP
              have hD : va_D A (wM g0 g1 g2 g3 g4 cI cJ d r gb w rm lc k dr pn pa pi 2 ga e2 b rt) := hD
              exact W.iret (v := (nI 0)) hx hb hr (fun t ht hW => ⟨⟨(nI 0), wM g0 g1 g2 g3 g4 cI cJ d r gb w rm lc k dr pn pa pi 2 ga e2 b rt, rfl, Or.inr (Or.inl ⟨by omega, Or.inl ⟨c71, rfl⟩⟩), by rw [ht]; exact hP, va_K.moved hW.alike hK, hD⟩, hS.F ht⟩) hS.2.2 dX1_begin_79
          · exfalso; omega
      · refine lv_iload_n hx hb dX1_begin_28 rfl (lv_at hl 3 rfl) ?_
        refine lv_bipush (v := nI 55) hx hb dX1_begin_29 (by decide +kernel) ?_
        refine lv_bipush (v := nI 95) hx hb dX1_begin_31 (by decide +kernel) ?_
        refine nk_rd (W.runS (As := [.int p3, .int (nI 55), .int (nI 95)]) (rest := [.ref g0]) ⟨hx, hb, hml, hown, hts⟩ (c_X1_in l p3 (nI 55) (nI 95) z3 ((55 : Nat) : Int) ((95 : Nat) : Int) hz3 (nI_toInt (by omega)) (nI_toInt (by omega))) (va_cwS 3 hts gX1_begin_X1_in rfl rfl rfl (by decide +kernel) ⟨Nat.le_of_ble_eq_true rfl, Nat.le_of_ble_eq_true rfl⟩) ⟨nk_P0.blind, fun U hU hW => ⟨rfl, trivial⟩⟩ rfl rfl hl.1 rfl (lv_room (Nat.le_of_ble_eq_true rfl)) dX1_begin_33 ⟨Nat.zero_le _, Nat.zero_le _⟩) ?_
        refine W.eq (g2 := F0 m 36 ls [.int (nI (if ((55 : Nat) : Int) ≤ z3 ∧ z3 ≤ ((95 : Nat) : Int) then 1 else 0)), .ref g0]) rfl ?_
        refine nk_bif_eq (tgt := 54) hx hb dX1_begin_36 (by decide) (fun c36 => ?_) (fun c36 => ?_)
        · refine lv_iconst (v := nI 1) hx hb dX1_begin_54 (by decide +kernel) ?_
          refine va_put (D := D) (ci := 1) (v := .int (nI 1)) (ty := .int) (C := RX1) (T := TX1) (N := 16) hx hb hts hin tyX1 tyX1_ok nmX1 hown hK hP hD hS 0 rfl rfl 15 (by decide) f27 (fun _ h9 => h9) rfl (by decide +kernel) rfl rfl (Nat.le_of_ble_eq_true rfl) dX1_begin_55 (fun H locs hP hD hS => ?_)
          have hP : va_P D vwCl (wM g0 g1 g2 g3 g4 cI cJ d r gb w rm lc k dr pn pa pi 1 ga e2 b rt) H := hP
          have hD : va_D A (wM g0 g1 g2 g3 g4 cI cJ d r gb w rm lc k dr pn pa pi 1 ga e2 b rt) := hD
          refine lv_aload_n hx hb dX1_begin_58 rfl (lv_at hl 0 rfl) ?_
          refine va_get (D := D) (ci := 1) (v := .int (nI 1)) (C := RX1) (T := TX1) (N := 16) hx hb hts hin hown hK hP 0 rfl rfl 15 (by decide) f27 (fun _ h9 => h9) rfl dX1_begin_59 ?_
          refine nk_if_le (tgt := 67) hx hb (by omega) dX1_begin_62 (by decide) (fun c62 => ?_) (fun c62 => ?_)
          · exfalso; omega
          · refine lv_iconst (v := nI 0) hx hb dX1_begin_65 (by decide +kernel) ?_
            exact W.iret (v := (nI 0)) hx hb hr (fun t ht hW => ⟨⟨(nI 0), wM g0 g1 g2 g3 g4 cI cJ d r gb w rm lc k dr pn pa pi 1 ga e2 b rt, rfl, Or.inl ⟨by omega, rfl⟩, by rw [ht]; exact hP, va_K.moved hW.alike hK, hD⟩, hS.F ht⟩) hS.2.2 dX1_begin_66
        · refine lv_iload hx hb dX1_begin_39 (lv_at hl 4 rfl) ?_
          refine lv_iconst (v := nI 0) hx hb dX1_begin_41 (by decide +kernel) ?_
          refine lv_ldc (v := nI 10000000) hx hb hown k57 dX1_begin_42 ?_
          refine nk_rd (W.runS (As := [.int p4, .int (nI 0), .int (nI 10000000)]) (rest := [.ref g0]) ⟨hx, hb, hml, hown, hts⟩ (c_X1_in l p4 (nI 0) (nI 10000000) z4 ((0 : Nat) : Int) ((10000000 : Nat) : Int) hz4 (nI_toInt (by omega)) (nI_toInt (by omega))) (va_cwS 3 hts gX1_begin_X1_in rfl rfl rfl (by decide +kernel) ⟨Nat.le_of_ble_eq_true rfl, Nat.le_of_ble_eq_true rfl⟩) ⟨nk_P0.blind, fun U hU hW => ⟨rfl, trivial⟩⟩ rfl rfl hl.1 rfl (lv_room (Nat.le_of_ble_eq_true rfl)) dX1_begin_44 ⟨Nat.zero_le _, Nat.zero_le _⟩) ?_
          refine W.eq (g2 := F0 m 47 ls [.int (nI (if ((0 : Nat) : Int) ≤ z4 ∧ z4 ≤ ((10000000 : Nat) : Int) then 1 else 0)), .ref g0]) rfl ?_
          refine nk_bif_eq (tgt := 54) hx hb dX1_begin_47 (by decide) (fun c47 => ?_) (fun c47 => ?_)
          · refine lv_iconst (v := nI 1) hx hb dX1_begin_54 (by decide +kernel) ?_
            refine va_put (D := D) (ci := 1) (v := .int (nI 1)) (ty := .int) (C := RX1) (T := TX1) (N := 16) hx hb hts hin tyX1 tyX1_ok nmX1 hown hK hP hD hS 0 rfl rfl 15 (by decide) f27 (fun _ h9 => h9) rfl (by decide +kernel) rfl rfl (Nat.le_of_ble_eq_true rfl) dX1_begin_55 (fun H locs hP hD hS => ?_)
            have hP : va_P D vwCl (wM g0 g1 g2 g3 g4 cI cJ d r gb w rm lc k dr pn pa pi 1 ga e2 b rt) H := hP
            have hD : va_D A (wM g0 g1 g2 g3 g4 cI cJ d r gb w rm lc k dr pn pa pi 1 ga e2 b rt) := hD
            refine lv_aload_n hx hb dX1_begin_58 rfl (lv_at hl 0 rfl) ?_
            refine va_get (D := D) (ci := 1) (v := .int (nI 1)) (C := RX1) (T := TX1) (N := 16) hx hb hts hin hown hK hP 0 rfl rfl 15 (by decide) f27 (fun _ h9 => h9) rfl dX1_begin_59 ?_
            refine nk_if_le (tgt := 67) hx hb (by omega) dX1_begin_62 (by decide) (fun c62 => ?_) (fun c62 => ?_)
            · exfalso; omega
            · refine lv_iconst (v := nI 0) hx hb dX1_begin_65 (by decide +kernel) ?_
              exact W.iret (v := (nI 0)) hx hb hr (fun t ht hW => ⟨⟨(nI 0), wM g0 g1 g2 g3 g4 cI cJ d r gb w rm lc k dr pn pa pi 1 ga e2 b rt, rfl, Or.inl ⟨by omega, rfl⟩, by rw [ht]; exact hP, va_K.moved hW.alike hK, hD⟩, hS.F ht⟩) hS.2.2 dX1_begin_66
          · refine lv_iconst (v := nI 0) hx hb dX1_begin_50 (by decide +kernel) ?_
            refine lv_goto (tgt := 55) hx hb dX1_begin_51 (by decide) ?_
            refine va_put (D := D) (ci := 1) (v := .int (nI 0)) (ty := .int) (C := RX1) (T := TX1) (N := 16) hx hb hts hin tyX1 tyX1_ok nmX1 hown hK hP hD hS 0 rfl rfl 15 (by decide) f27 (fun _ h9 => h9) rfl (by decide +kernel) rfl rfl (Nat.le_of_ble_eq_true rfl) dX1_begin_55 (fun H locs hP hD hS => ?_)
            have hP : va_P D vwCl (wM g0 g1 g2 g3 g4 cI cJ d r gb w rm lc k dr pn pa pi 0 ga e2 b rt) H := hP
            have hD : va_D A (wM g0 g1 g2 g3 g4 cI cJ d r gb w rm lc k dr pn pa pi 0 ga e2 b rt) := hD
            refine lv_aload_n hx hb dX1_begin_58 rfl (lv_at hl 0 rfl) ?_
            refine va_get (D := D) (ci := 1) (v := .int (nI 0)) (C := RX1) (T := TX1) (N := 16) hx hb hts hin hown hK hP 0 rfl rfl 15 (by decide) f27 (fun _ h9 => h9) rfl dX1_begin_59 ?_
            refine nk_if_le (tgt := 67) hx hb (by omega) dX1_begin_62 (by decide) (fun c62 => ?_) (fun c62 => ?_)
            · obtain ⟨rfl, ha1⟩ := hpa1 (by omega)
              have z1a : z1 = (a1 : Int) := by rw [← hz1]; exact nI_toInt (by omega)
              obtain ⟨rfl, ha2⟩ := hpa2 (by omega)
              have z2a : z2 = (a2 : Int) := by rw [← hz2]; exact nI_toInt (by omega)
              obtain ⟨rfl, ha3⟩ := hpa3 (by omega)
              have z3a : z3 = (a3 : Int) := by rw [← hz3]; exact nI_toInt (by omega)
              obtain ⟨rfl, ha4⟩ := hpa4 (by omega)
              have z4a : z4 = (a4 : Int) := by rw [← hz4]; exact nI_toInt (by omega)
              refine lv_aload_n hx hb dX1_begin_67 rfl (lv_at hl 0 rfl) ?_
              refine va_get (D := D) (ci := 1) (v := .int (nI gb)) (C := RX1) (T := TX1) (N := 16) hx hb hts hin hown hK hP 0 rfl rfl 2 (by decide) f33 (fun _ h9 => h9) rfl dX1_begin_68 ?_
              refine nk_if_le (tgt := 80) hx hb (by omega) dX1_begin_71 (by decide) (fun c71 => ?_) (fun c71 => ?_)
              · replace he20 := he20 c71
                replace he21 := he21 c71
                have he29 : ∀ j, j < 2 → e2 j ≤ 15001 := he28
                have hkz := hk0 c71
                refine lv_aload_n hx hb dX1_begin_80 rfl (lv_at hl 0 rfl) ?_
                refine lv_iload_n hx hb dX1_begin_81 rfl (lv_at hl 3 rfl) ?_
                refine nk_if_ne (tgt := 89) hx hb (by omega) dX1_begin_82 (by decide) (fun c82 => ?_) (fun c82 => ?_)
                · refine lv_iconst (v := nI 2) hx hb dX1_begin_89 (by decide +kernel) ?_
                  refine va_put (D := D) (ci := 1) (v := .int (nI 2)) (ty := .int) (C := RX1) (T := TX1) (N := 16) hx hb hts hin tyX1 tyX1_ok nmX1 hown hK hP hD hS 0 rfl rfl 5 (by decide) f30 (fun _ h9 => h9) rfl (by decide +kernel) rfl rfl (Nat.le_of_ble_eq_true rfl) dX1_begin_90 (fun H locs hP hD hS => ?_)
                  have hP : va_P D vwCl (wM g0 g1 g2 g3 g4 cI cJ d r gb w rm 2 k dr pn pa pi 0 ga e2 b rt) H := hP
                  have hD : va_D A (wM g0 g1 g2 g3 g4 cI cJ d r gb w rm 2 k dr pn pa pi 0 ga e2 b rt) := hD
                  refine lv_aload_n hx hb dX1_begin_93 rfl (lv_at hl 0 rfl) ?_
                  refine va_get (D := D) (ci := 1) (v := .ref g1) (C := RX1) (T := TX1) (N := 16) hx hb hts hin hown hK hP 0 rfl rfl 6 (by decide) f13 (fun _ h9 => h9) rfl dX1_begin_94 ?_
                  refine lv_iconst (v := nI 0) hx hb dX1_begin_97 (by decide +kernel) ?_
                  refine lv_iload_n hx hb dX1_begin_98 rfl (lv_at hl 2 rfl) ?_
                  refine nk_iast hx hb hK hP hD hS 1 0 rfl rfl (by omega) (by decide) dX1_begin_99 (fun H locs hP hD hS => ?_)
                  have hP : va_P D vwCl (wM g0 g1 g2 g3 g4 cI cJ d r gb w rm 2 k dr pn pa pi 0 (va_up ga 0 a2) e2 b rt) H := hP
                  have hD : va_D A (wM g0 g1 g2 g3 g4 cI cJ d r gb w rm 2 k dr pn pa pi 0 (va_up ga 0 a2) e2 b rt) := hD
                  refine lv_aload_n hx hb dX1_begin_100 rfl (lv_at hl 0 rfl) ?_
                  refine va_get (D := D) (ci := 1) (v := .ref g1) (C := RX1) (T := TX1) (N := 16) hx hb hts hin hown hK hP 0 rfl rfl 6 (by decide) f13 (fun _ h9 => h9) rfl dX1_begin_101 ?_
                  refine lv_iconst (v := nI 1) hx hb dX1_begin_104 (by decide +kernel) ?_
                  refine lv_iload_n hx hb dX1_begin_105 rfl (lv_at hl 3 rfl) ?_
                  refine nk_iast hx hb hK hP hD hS 1 0 rfl rfl (by omega) (by decide) dX1_begin_106 (fun H locs hP hD hS => ?_)
                  have hP : va_P D vwCl (wM g0 g1 g2 g3 g4 cI cJ d r gb w rm 2 k dr pn pa pi 0 (va_up (va_up ga 0 a2) 1 a3) e2 b rt) H := hP
                  have hD : va_D A (wM g0 g1 g2 g3 g4 cI cJ d r gb w rm 2 k dr pn pa pi 0 (va_up (va_up ga 0 a2) 1 a3) e2 b rt) := hD
                  refine lv_aload_n hx hb dX1_begin_107 rfl (lv_at hl 0 rfl) ?_
                  refine lv_iload_n hx hb dX1_begin_108 rfl (lv_at hl 1 rfl) ?_
                  have hga9 : ∀ j, j < 2 → 55 ≤ (va_up (va_up ga 0 a2) 1 a3) j ∧ (va_up (va_up ga 0 a2) 1 a3) j ≤ 95 := by
                    intro j hj
                    have hj2 : j = 0 ∨ j = 1 := by omega
                    rcases hj2 with rfl | rfl
                    · show 55 ≤ (if 0 = 1 then a3 else if 0 = 0 then a2 else ga 0) ∧ (if 0 = 1 then a3 else if 0 = 0 then a2 else ga 0) ≤ 95
                      simp only [if_neg (show ¬ (0 = 1) by decide), if_true]
                      omega
                    · show 55 ≤ (if 1 = 1 then a3 else _) ∧ (if 1 = 1 then a3 else _) ≤ 95
                      simp only [if_true]
                      omega
                  have hal9 : 0 < alive e2 2 := by simp [alive, he20, he21]
                  have hls9 : lstA (va_up (va_up ga 0 a2) 1 a3) e2 2 = min a2 a3 + 1 := by rw [lst_2 he20 he21]; rfl
                  refine nk_rd (W.runV (As := [.int (nI a1)]) (rest := []) ⟨hx, hb, hml, hown, hts⟩ (c_X1_greatest l D g0 g1 g2 g3 g4 cI cJ d r gb w rm 2 k dr pn pa pi 0 (va_up (va_up ga 0 a2) 1 a3) e2 b rt a1 (by omega) hal9 (by omega) (fun j hj => he29 j (by omega)) hga9 hd) (cwV 1 hts gX1_begin_X1_greatest rfl rfl rfl (by decide +kernel) ⟨Nat.le_of_ble_eq_true rfl, Nat.le_of_ble_eq_true rfl⟩) ⟨nk_Pr.blind, va_recv hK hP (ci := 1) (q0 := 0) rfl rfl, fun U hU hW => ⟨rfl, by rw [hU]; exact hP, va_K.moved hW.alike hK⟩⟩ rfl rfl hl.1 rfl (lv_room (Nat.le_of_ble_eq_true rfl)) dX1_begin_109 ⟨Nat.zero_le _, Nat.zero_le _⟩) ?_
                  refine W.eq (g2 := F0 m 112 ls [.int (nI (gL a1 (lstA (va_up (va_up ga 0 a2) 1 a3) e2 2 - 1 + d / 365)))]) rfl ?_
                  refine nk_topi (y := (nI (gL a1 (min a2 a3 + d / 365)))) (by rw [hls9, Nat.add_sub_cancel]) ?_
                  have hg9 : gL a1 (min a2 a3 + d / 365) ≤ 5500000 := gL_le (by omega)
                  refine lv_istore (lv' := [(5, .int (nI (gL a1 (min a2 a3 + d / 365)))), (0, .ref g0), (1, .int (nI a1)), (2, .int (nI a2)), (3, .int (nI a3)), (4, .int (nI a4))]) hx hb dX1_begin_112 hl (by decide) rfl (fun ls hl => ?_)
                  refine lv_iload hx hb dX1_begin_114 (lv_at hl 5 rfl) ?_
                  refine lv_iload hx hb dX1_begin_116 (lv_at hl 0 rfl) ?_
                  refine nk_icmp_le (tgt := 132) hx hb (by omega) (by omega) dX1_begin_118 (by decide) (fun c118 => ?_) (fun c118 => ?_)
                  · refine lv_aload_n hx hb dX1_begin_132 rfl (lv_at hl 1 rfl) ?_
                    refine lv_aload_n hx hb dX1_begin_133 rfl (lv_at hl 1 rfl) ?_
                    refine va_get (D := D) (ci := 1) (v := .int (nI d)) (C := RX1) (T := TX1) (N := 16) hx hb hts hin hown hK hP 0 rfl rfl 0 (by decide) f40 (fun _ h9 => h9) rfl dX1_begin_134 ?_
                    refine lv_iconst (v := nI 1) hx hb dX1_begin_137 (by decide +kernel) ?_
                    refine nk_iadd hx hb dX1_begin_138 ?_
                    refine va_put (D := D) (ci := 1) (v := .int (nI (d + 1))) (ty := .int) (C := RX1) (T := TX1) (N := 16) hx hb hts hin tyX1 tyX1_ok nmX1 hown hK hP hD hS 0 rfl rfl 2 (by decide) f33 (fun _ h9 => h9) rfl (by decide +kernel) rfl rfl (Nat.le_of_ble_eq_true rfl) dX1_begin_139 (fun H locs hP hD hS => ?_)
                    have hP : va_P D vwCl (wM g0 g1 g2 g3 g4 cI cJ d r (d + 1) w rm 2 k dr pn pa pi 0 (va_up (va_up ga 0 a2) 1 a3) e2 b rt) H := hP
                    have hD : va_D A (wM g0 g1 g2 g3 g4 cI cJ d r (d + 1) w rm 2 k dr pn pa pi 0 (va_up (va_up ga 0 a2) 1 a3) e2 b rt) := hD
                    refine lv_aload_n hx hb dX1_begin_142 rfl (lv_at hl 1 rfl) ?_
                    refine lv_iload_n hx hb dX1_begin_143 rfl (lv_at hl 2 rfl) ?_
                    refine va_put (D := D) (ci := 1) (v := .int (nI a1)) (ty := .int) (C := RX1) (T := TX1) (N := 16) hx hb hts hin tyX1 tyX1_ok nmX1 hown hK hP hD hS 0 rfl rfl 3 (by decide) f69 (fun _ h9 => h9) rfl (by decide +kernel) rfl rfl (Nat.le_of_ble_eq_true rfl) dX1_begin_144 (fun H locs hP hD hS => ?_)
                    have hP : va_P D vwCl (wM g0 g1 g2 g3 g4 cI cJ d r (d + 1) a1 rm 2 k dr pn pa pi 0 (va_up (va_up ga 0 a2) 1 a3) e2 b rt) H := hP
                    have hD : va_D A (wM g0 g1 g2 g3 g4 cI cJ d r (d + 1) a1 rm 2 k dr pn pa pi 0 (va_up (va_up ga 0 a2) 1 a3) e2 b rt) := hD
                    refine lv_aload_n hx hb dX1_begin_147 rfl (lv_at hl 1 rfl) ?_
                    refine lv_iload hx hb dX1_begin_148 (lv_at hl 0 rfl) ?_
                    refine lv_iload hx hb dX1_begin_150 (lv_at hl 5 rfl) ?_
                    refine nk_isub hx hb (by omega) dX1_begin_152 ?_
                    refine va_put (D := D) (ci := 1) (v := .int (nI ((gL a1 (min a2 a3 + d / 365)) - a4))) (ty := .int) (C := RX1) (T := TX1) (N := 16) hx hb hts hin tyX1 tyX1_ok nmX1 hown hK hP hD hS 0 rfl rfl 4 (by decide) f72 (fun _ h9 => h9) rfl (by decide +kernel) rfl rfl (Nat.le_of_ble_eq_true rfl) dX1_begin_153 (fun H locs hP hD hS => ?_)
                    have hP : va_P D vwCl (wM g0 g1 g2 g3 g4 cI cJ d r (d + 1) a1 ((gL a1 (min a2 a3 + d / 365)) - a4) 2 k dr pn pa pi 0 (va_up (va_up ga 0 a2) 1 a3) e2 b rt) H := hP
                    have hD : va_D A (wM g0 g1 g2 g3 g4 cI cJ d r (d + 1) a1 ((gL a1 (min a2 a3 + d / 365)) - a4) 2 k dr pn pa pi 0 (va_up (va_up ga 0 a2) 1 a3) e2 b rt) := hD
                    refine lv_iload hx hb dX1_begin_156 (lv_at hl 5 rfl) ?_
                    refine nk_if_le (tgt := 167) hx hb (by omega) dX1_begin_158 (by decide) (fun c158 => ?_) (fun c158 => ?_)
                    · refine lv_aload_n hx hb dX1_begin_167 rfl (lv_at hl 1 rfl) ?_
                      refine va_get (D := D) (ci := 1) (v := .int (nI ((gL a1 (min a2 a3 + d / 365)) - a4))) (C := RX1) (T := TX1) (N := 16) hx hb hts hin hown hK hP 0 rfl rfl 4 (by decide) f72 (fun _ h9 => h9) rfl dX1_begin_168 ?_
                      exact W.iret (v := (nI ((gL a1 (min a2 a3 + d / 365)) - a4))) hx hb hr (fun t ht hW => ⟨⟨(nI ((gL a1 (min a2 a3 + d / 365)) - a4)), wM g0 g1 g2 g3 g4 cI cJ d r (d + 1) a1 ((gL a1 (min a2 a3 + d / 365)) - a4) 2 k dr pn pa pi 0 (va_up (va_up ga 0 a2) 1 a3) e2 b rt, rfl, Or.inr (Or.inr ⟨by omega, by omega, Or.inr (Or.inr (Or.inl ⟨by omega, by omega, by omega, rfl, rfl⟩))⟩), by rw [ht]; exact hP, va_K.moved hW.alike hK, hD⟩, hS.F ht⟩) hS.2.2 dX1_begin_171
                    · refine lv_aload_n hx hb dX1_begin_161 rfl (lv_at hl 1 rfl) ?_
                      refine lv_iload hx hb dX1_begin_162 (lv_at hl 5 rfl) ?_
                      refine nk_vcall (wr := []) (va_runV (As := [.int (nI a4)]) (rest := []) ⟨hx, hb, hml, hown, hts⟩ (c_X1_draws l D g0 g1 g2 g3 g4 cI cJ d r (d + 1) a1 ((gL a1 (min a2 a3 + d / 365)) - a4) 2 k dr pn pa pi 0 (va_up (va_up ga 0 a2) 1 a3) e2 b rt H.size a4 (by omega) (by omega)) (cwV 1 hts gX1_begin_X1_draws rfl rfl rfl (by decide +kernel) ⟨Nat.le_of_ble_eq_true rfl, Nat.le_of_ble_eq_true rfl⟩) ⟨nk_Pw.blind, va_recv hK hP (ci := 1) (q0 := 0) rfl rfl, fun U hU hW => ⟨rfl, by rw [hU], by rw [hU]; exact hP, va_K.moved hW.alike hK, hD.weaken (fun _ _ _ _ => trivial)⟩⟩ rfl rfl hl.1 rfl (lv_room (Nat.le_of_ble_eq_true rfl)) dX1_begin_164 ⟨Nat.zero_le _, Nat.zero_le _⟩) hP hD hS hA [0, 1, 2, 3, 4] [] rfl rfl rfl (by decide) (fun w1 H locs hw hP hD hS hk9 => ?_)
                      subst hw
                      have hP : va_P D vwCl (wM g0 g1 g2 g3 g4 cI cJ d r (d + 1) a1 ((gL a1 (min a2 a3 + d / 365)) - a4) 2 (k + 1) (dr + a4) pn pa pi 0 (va_up (va_up ga 0 a2) 1 a3) e2 (va_up b k (a4 * 10000)) (va_up rt k r)) H := hP
                      have hD : va_D A (wM g0 g1 g2 g3 g4 cI cJ d r (d + 1) a1 ((gL a1 (min a2 a3 + d / 365)) - a4) 2 (k + 1) (dr + a4) pn pa pi 0 (va_up (va_up ga 0 a2) 1 a3) e2 (va_up b k (a4 * 10000)) (va_up rt k r)) := hD
                      refine lv_aload_n hx hb dX1_begin_167 rfl (lv_at hl 1 rfl) ?_
                      refine va_get (D := D) (ci := 1) (v := .int (nI ((gL a1 (min a2 a3 + d / 365)) - a4))) (C := RX1) (T := TX1) (N := 16) hx hb hts hin hown hK hP 0 rfl rfl 4 (by decide) f72 (fun _ h9 => h9) rfl dX1_begin_168 ?_
                      exact W.iret (v := (nI ((gL a1 (min a2 a3 + d / 365)) - a4))) hx hb hr (fun t ht hW => ⟨⟨(nI ((gL a1 (min a2 a3 + d / 365)) - a4)), wM g0 g1 g2 g3 g4 cI cJ d r (d + 1) a1 ((gL a1 (min a2 a3 + d / 365)) - a4) 2 (k + 1) (dr + a4) pn pa pi 0 (va_up (va_up ga 0 a2) 1 a3) e2 (va_up b k (a4 * 10000)) (va_up rt k r), rfl, Or.inr (Or.inr ⟨by omega, by omega, Or.inr (Or.inr (Or.inr (⟨by omega, by omega, by omega, rfl, rfl⟩)))⟩), by rw [ht]; exact hP, va_K.moved hW.alike hK, hD⟩, hS.F ht⟩) hS.2.2 dX1_begin_171
                  · refine lv_aload_n hx hb dX1_begin_121 rfl (lv_at hl 1 rfl) ?_
                    refine lv_iconst (v := nI 0) hx hb dX1_begin_122 (by decide +kernel) ?_
                    refine va_put (D := D) (ci := 1) (v := .int (nI 0)) (ty := .int) (C := RX1) (T := TX1) (N := 16) hx hb hts hin tyX1 tyX1_ok nmX1 hown hK hP hD hS 0 rfl rfl 5 (by decide) f30 (fun _ h9 => h9) rfl (by decide +kernel) rfl rfl (Nat.le_of_ble_eq_true rfl) dX1_begin_123 (fun H locs hP hD hS => ?_)
                    have hP : va_P D vwCl (wM g0 g1 g2 g3 g4 cI cJ d r gb w rm 0 k dr pn pa pi 0 (va_up (va_up ga 0 a2) 1 a3) e2 b rt) H := hP
                    have hD : va_D A (wM g0 g1 g2 g3 g4 cI cJ d r gb w rm 0 k dr pn pa pi 0 (va_up (va_up ga 0 a2) 1 a3) e2 b rt) := hD
                    refine lv_aload_n hx hb dX1_begin_126 rfl (lv_at hl 1 rfl) ?_
                    refine lv_iconst (v := nI 2) hx hb dX1_begin_127 (by decide +kernel) ?_
                    refine nk_icall (wr := []) (va_runV (As := [.int (nI 2)]) (rest := []) ⟨hx, hb, hml, hown, hts⟩ (c_X1_fails l D g0 g1 g2 g3 g4 cI cJ d r gb w rm 0 k dr pn pa pi 0 (va_up (va_up ga 0 a2) 1 a3) e2 b rt H.size 2) (cwV 1 hts gX1_begin_X1_fails rfl rfl rfl (by decide +kernel) ⟨Nat.le_of_ble_eq_true rfl, Nat.le_of_ble_eq_true rfl⟩) ⟨nk_Pw.blind, va_recv hK hP (ci := 1) (q0 := 0) rfl rfl, fun U hU hW => ⟨rfl, by rw [hU], by rw [hU]; exact hP, va_K.moved hW.alike hK, hD.weaken (fun _ _ _ _ => trivial)⟩⟩ rfl rfl hl.1 rfl (lv_room (Nat.le_of_ble_eq_true rfl)) dX1_begin_128 ⟨Nat.zero_le _, Nat.zero_le _⟩) hP hD hS hA [0, 1, 2, 3, 4] [] rfl rfl rfl (by decide) (fun r128 w1 H locs hw hP hD hS hk9 => ?_)
                    obtain ⟨hv9, rfl⟩ := hw
                    subst hv9
                    have hP : va_P D vwCl (wM g0 g1 g2 g3 g4 cI cJ d r gb w rm 0 k dr pn pa pi 2 (va_up (va_up ga 0 a2) 1 a3) e2 b rt) H := hP
                    have hD : va_D A (wM g0 g1 g2 g3 g4 cI cJ d r gb w rm 0 k dr pn pa pi 2 (va_up (va_up ga 0 a2) 1 a3) e2 b rt) := hD
                    exact W.iret (v := (nI 0)) hx hb hr (fun t ht hW => ⟨⟨(nI 0), wM g0 g1 g2 g3 g4 cI cJ d r gb w rm 0 k dr pn pa pi 2 (va_up (va_up ga 0 a2) 1 a3) e2 b rt, rfl, Or.inr (Or.inl ⟨by omega, Or.inr ⟨by omega, Or.inr ⟨by omega, by omega⟩, rfl⟩⟩), by rw [ht]; exact hP, va_K.moved hW.alike hK, hD⟩, hS.F ht⟩) hS.2.2 dX1_begin_131
                · refine lv_iconst (v := nI 1) hx hb dX1_begin_85 (by decide +kernel) ?_
                  refine lv_goto (tgt := 90) hx hb dX1_begin_86 (by decide) ?_
                  refine va_put (D := D) (ci := 1) (v := .int (nI 1)) (ty := .int) (C := RX1) (T := TX1) (N := 16) hx hb hts hin tyX1 tyX1_ok nmX1 hown hK hP hD hS 0 rfl rfl 5 (by decide) f30 (fun _ h9 => h9) rfl (by decide +kernel) rfl rfl (Nat.le_of_ble_eq_true rfl) dX1_begin_90 (fun H locs hP hD hS => ?_)
                  have hP : va_P D vwCl (wM g0 g1 g2 g3 g4 cI cJ d r gb w rm 1 k dr pn pa pi 0 ga e2 b rt) H := hP
                  have hD : va_D A (wM g0 g1 g2 g3 g4 cI cJ d r gb w rm 1 k dr pn pa pi 0 ga e2 b rt) := hD
                  refine lv_aload_n hx hb dX1_begin_93 rfl (lv_at hl 0 rfl) ?_
                  refine va_get (D := D) (ci := 1) (v := .ref g1) (C := RX1) (T := TX1) (N := 16) hx hb hts hin hown hK hP 0 rfl rfl 6 (by decide) f13 (fun _ h9 => h9) rfl dX1_begin_94 ?_
                  refine lv_iconst (v := nI 0) hx hb dX1_begin_97 (by decide +kernel) ?_
                  refine lv_iload_n hx hb dX1_begin_98 rfl (lv_at hl 2 rfl) ?_
                  refine nk_iast hx hb hK hP hD hS 1 0 rfl rfl (by omega) (by decide) dX1_begin_99 (fun H locs hP hD hS => ?_)
                  have hP : va_P D vwCl (wM g0 g1 g2 g3 g4 cI cJ d r gb w rm 1 k dr pn pa pi 0 (va_up ga 0 a2) e2 b rt) H := hP
                  have hD : va_D A (wM g0 g1 g2 g3 g4 cI cJ d r gb w rm 1 k dr pn pa pi 0 (va_up ga 0 a2) e2 b rt) := hD
                  refine lv_aload_n hx hb dX1_begin_100 rfl (lv_at hl 0 rfl) ?_
                  refine va_get (D := D) (ci := 1) (v := .ref g1) (C := RX1) (T := TX1) (N := 16) hx hb hts hin hown hK hP 0 rfl rfl 6 (by decide) f13 (fun _ h9 => h9) rfl dX1_begin_101 ?_
                  refine lv_iconst (v := nI 1) hx hb dX1_begin_104 (by decide +kernel) ?_
                  refine lv_iload_n hx hb dX1_begin_105 rfl (lv_at hl 3 rfl) ?_
                  refine nk_iast hx hb hK hP hD hS 1 0 rfl rfl (by omega) (by decide) dX1_begin_106 (fun H locs hP hD hS => ?_)
                  have hP : va_P D vwCl (wM g0 g1 g2 g3 g4 cI cJ d r gb w rm 1 k dr pn pa pi 0 (va_up (va_up ga 0 a2) 1 a3) e2 b rt) H := hP
                  have hD : va_D A (wM g0 g1 g2 g3 g4 cI cJ d r gb w rm 1 k dr pn pa pi 0 (va_up (va_up ga 0 a2) 1 a3) e2 b rt) := hD
                  refine lv_aload_n hx hb dX1_begin_107 rfl (lv_at hl 0 rfl) ?_
                  refine lv_iload_n hx hb dX1_begin_108 rfl (lv_at hl 1 rfl) ?_
                  have hga9 : ∀ j, j < 1 → 55 ≤ (va_up (va_up ga 0 a2) 1 a3) j ∧ (va_up (va_up ga 0 a2) 1 a3) j ≤ 95 := by
                    intro j hj
                    have hj2 : j = 0 ∨ j = 1 := by omega
                    rcases hj2 with rfl | rfl
                    · show 55 ≤ (if 0 = 1 then a3 else if 0 = 0 then a2 else ga 0) ∧ (if 0 = 1 then a3 else if 0 = 0 then a2 else ga 0) ≤ 95
                      simp only [if_neg (show ¬ (0 = 1) by decide), if_true]
                      omega
                    · show 55 ≤ (if 1 = 1 then a3 else _) ∧ (if 1 = 1 then a3 else _) ≤ 95
                      simp only [if_true]
                      omega
                  have hal9 : 0 < alive e2 1 := by simp [alive, he20, he21]
                  have hls9 : lstA (va_up (va_up ga 0 a2) 1 a3) e2 1 = a2 + 1 := by rw [lst_1 he20]; rfl
                  refine nk_rd (W.runV (As := [.int (nI a1)]) (rest := []) ⟨hx, hb, hml, hown, hts⟩ (c_X1_greatest l D g0 g1 g2 g3 g4 cI cJ d r gb w rm 1 k dr pn pa pi 0 (va_up (va_up ga 0 a2) 1 a3) e2 b rt a1 (by omega) hal9 (by omega) (fun j hj => he29 j (by omega)) hga9 hd) (cwV 1 hts gX1_begin_X1_greatest rfl rfl rfl (by decide +kernel) ⟨Nat.le_of_ble_eq_true rfl, Nat.le_of_ble_eq_true rfl⟩) ⟨nk_Pr.blind, va_recv hK hP (ci := 1) (q0 := 0) rfl rfl, fun U hU hW => ⟨rfl, by rw [hU]; exact hP, va_K.moved hW.alike hK⟩⟩ rfl rfl hl.1 rfl (lv_room (Nat.le_of_ble_eq_true rfl)) dX1_begin_109 ⟨Nat.zero_le _, Nat.zero_le _⟩) ?_
                  refine W.eq (g2 := F0 m 112 ls [.int (nI (gL a1 (lstA (va_up (va_up ga 0 a2) 1 a3) e2 1 - 1 + d / 365)))]) rfl ?_
                  refine nk_topi (y := (nI (gL a1 (a2 + d / 365)))) (by rw [hls9, Nat.add_sub_cancel]) ?_
                  have hg9 : gL a1 (a2 + d / 365) ≤ 5500000 := gL_le (by omega)
                  refine lv_istore (lv' := [(5, .int (nI (gL a1 (a2 + d / 365)))), (0, .ref g0), (1, .int (nI a1)), (2, .int (nI a2)), (3, .int (nI a3)), (4, .int (nI a4))]) hx hb dX1_begin_112 hl (by decide) rfl (fun ls hl => ?_)
                  refine lv_iload hx hb dX1_begin_114 (lv_at hl 5 rfl) ?_
                  refine lv_iload hx hb dX1_begin_116 (lv_at hl 0 rfl) ?_
                  refine nk_icmp_le (tgt := 132) hx hb (by omega) (by omega) dX1_begin_118 (by decide) (fun c118 => ?_) (fun c118 => ?_)
                  · refine lv_aload_n hx hb dX1_begin_132 rfl (lv_at hl 1 rfl) ?_
                    refine lv_aload_n hx hb dX1_begin_133 rfl (lv_at hl 1 rfl) ?_
                    refine va_get (D := D) (ci := 1) (v := .int (nI d)) (C := RX1) (T := TX1) (N := 16) hx hb hts hin hown hK hP 0 rfl rfl 0 (by decide) f40 (fun _ h9 => h9) rfl dX1_begin_134 ?_
                    refine lv_iconst (v := nI 1) hx hb dX1_begin_137 (by decide +kernel) ?_
                    refine nk_iadd hx hb dX1_begin_138 ?_
                    refine va_put (D := D) (ci := 1) (v := .int (nI (d + 1))) (ty := .int) (C := RX1) (T := TX1) (N := 16) hx hb hts hin tyX1 tyX1_ok nmX1 hown hK hP hD hS 0 rfl rfl 2 (by decide) f33 (fun _ h9 => h9) rfl (by decide +kernel) rfl rfl (Nat.le_of_ble_eq_true rfl) dX1_begin_139 (fun H locs hP hD hS => ?_)
                    have hP : va_P D vwCl (wM g0 g1 g2 g3 g4 cI cJ d r (d + 1) w rm 1 k dr pn pa pi 0 (va_up (va_up ga 0 a2) 1 a3) e2 b rt) H := hP
                    have hD : va_D A (wM g0 g1 g2 g3 g4 cI cJ d r (d + 1) w rm 1 k dr pn pa pi 0 (va_up (va_up ga 0 a2) 1 a3) e2 b rt) := hD
                    refine lv_aload_n hx hb dX1_begin_142 rfl (lv_at hl 1 rfl) ?_
                    refine lv_iload_n hx hb dX1_begin_143 rfl (lv_at hl 2 rfl) ?_
                    refine va_put (D := D) (ci := 1) (v := .int (nI a1)) (ty := .int) (C := RX1) (T := TX1) (N := 16) hx hb hts hin tyX1 tyX1_ok nmX1 hown hK hP hD hS 0 rfl rfl 3 (by decide) f69 (fun _ h9 => h9) rfl (by decide +kernel) rfl rfl (Nat.le_of_ble_eq_true rfl) dX1_begin_144 (fun H locs hP hD hS => ?_)
                    have hP : va_P D vwCl (wM g0 g1 g2 g3 g4 cI cJ d r (d + 1) a1 rm 1 k dr pn pa pi 0 (va_up (va_up ga 0 a2) 1 a3) e2 b rt) H := hP
                    have hD : va_D A (wM g0 g1 g2 g3 g4 cI cJ d r (d + 1) a1 rm 1 k dr pn pa pi 0 (va_up (va_up ga 0 a2) 1 a3) e2 b rt) := hD
                    refine lv_aload_n hx hb dX1_begin_147 rfl (lv_at hl 1 rfl) ?_
                    refine lv_iload hx hb dX1_begin_148 (lv_at hl 0 rfl) ?_
                    refine lv_iload hx hb dX1_begin_150 (lv_at hl 5 rfl) ?_
                    refine nk_isub hx hb (by omega) dX1_begin_152 ?_
                    refine va_put (D := D) (ci := 1) (v := .int (nI ((gL a1 (a2 + d / 365)) - a4))) (ty := .int) (C := RX1) (T := TX1) (N := 16) hx hb hts hin tyX1 tyX1_ok nmX1 hown hK hP hD hS 0 rfl rfl 4 (by decide) f72 (fun _ h9 => h9) rfl (by decide +kernel) rfl rfl (Nat.le_of_ble_eq_true rfl) dX1_begin_153 (fun H locs hP hD hS => ?_)
                    have hP : va_P D vwCl (wM g0 g1 g2 g3 g4 cI cJ d r (d + 1) a1 ((gL a1 (a2 + d / 365)) - a4) 1 k dr pn pa pi 0 (va_up (va_up ga 0 a2) 1 a3) e2 b rt) H := hP
                    have hD : va_D A (wM g0 g1 g2 g3 g4 cI cJ d r (d + 1) a1 ((gL a1 (a2 + d / 365)) - a4) 1 k dr pn pa pi 0 (va_up (va_up ga 0 a2) 1 a3) e2 b rt) := hD
                    refine lv_iload hx hb dX1_begin_156 (lv_at hl 5 rfl) ?_
                    refine nk_if_le (tgt := 167) hx hb (by omega) dX1_begin_158 (by decide) (fun c158 => ?_) (fun c158 => ?_)
                    · refine lv_aload_n hx hb dX1_begin_167 rfl (lv_at hl 1 rfl) ?_
                      refine va_get (D := D) (ci := 1) (v := .int (nI ((gL a1 (a2 + d / 365)) - a4))) (C := RX1) (T := TX1) (N := 16) hx hb hts hin hown hK hP 0 rfl rfl 4 (by decide) f72 (fun _ h9 => h9) rfl dX1_begin_168 ?_
                      exact W.iret (v := (nI ((gL a1 (a2 + d / 365)) - a4))) hx hb hr (fun t ht hW => ⟨⟨(nI ((gL a1 (a2 + d / 365)) - a4)), wM g0 g1 g2 g3 g4 cI cJ d r (d + 1) a1 ((gL a1 (a2 + d / 365)) - a4) 1 k dr pn pa pi 0 (va_up (va_up ga 0 a2) 1 a3) e2 b rt, rfl, Or.inr (Or.inr ⟨by omega, by omega, Or.inl ⟨by omega, by omega, by omega, rfl, rfl⟩⟩), by rw [ht]; exact hP, va_K.moved hW.alike hK, hD⟩, hS.F ht⟩) hS.2.2 dX1_begin_171
                    · refine lv_aload_n hx hb dX1_begin_161 rfl (lv_at hl 1 rfl) ?_
                      refine lv_iload hx hb dX1_begin_162 (lv_at hl 5 rfl) ?_
                      refine nk_vcall (wr := []) (va_runV (As := [.int (nI a4)]) (rest := []) ⟨hx, hb, hml, hown, hts⟩ (c_X1_draws l D g0 g1 g2 g3 g4 cI cJ d r (d + 1) a1 ((gL a1 (a2 + d / 365)) - a4) 1 k dr pn pa pi 0 (va_up (va_up ga 0 a2) 1 a3) e2 b rt H.size a4 (by omega) (by omega)) (cwV 1 hts gX1_begin_X1_draws rfl rfl rfl (by decide +kernel) ⟨Nat.le_of_ble_eq_true rfl, Nat.le_of_ble_eq_true rfl⟩) ⟨nk_Pw.blind, va_recv hK hP (ci := 1) (q0 := 0) rfl rfl, fun U hU hW => ⟨rfl, by rw [hU], by rw [hU]; exact hP, va_K.moved hW.alike hK, hD.weaken (fun _ _ _ _ => trivial)⟩⟩ rfl rfl hl.1 rfl (lv_room (Nat.le_of_ble_eq_true rfl)) dX1_begin_164 ⟨Nat.zero_le _, Nat.zero_le _⟩) hP hD hS hA [0, 1, 2, 3, 4] [] rfl rfl rfl (by decide) (fun w1 H locs hw hP hD hS hk9 => ?_)
                      subst hw
                      have hP : va_P D vwCl (wM g0 g1 g2 g3 g4 cI cJ d r (d + 1) a1 ((gL a1 (a2 + d / 365)) - a4) 1 (k + 1) (dr + a4) pn pa pi 0 (va_up (va_up ga 0 a2) 1 a3) e2 (va_up b k (a4 * 10000)) (va_up rt k r)) H := hP
                      have hD : va_D A (wM g0 g1 g2 g3 g4 cI cJ d r (d + 1) a1 ((gL a1 (a2 + d / 365)) - a4) 1 (k + 1) (dr + a4) pn pa pi 0 (va_up (va_up ga 0 a2) 1 a3) e2 (va_up b k (a4 * 10000)) (va_up rt k r)) := hD
                      refine lv_aload_n hx hb dX1_begin_167 rfl (lv_at hl 1 rfl) ?_
                      refine va_get (D := D) (ci := 1) (v := .int (nI ((gL a1 (a2 + d / 365)) - a4))) (C := RX1) (T := TX1) (N := 16) hx hb hts hin hown hK hP 0 rfl rfl 4 (by decide) f72 (fun _ h9 => h9) rfl dX1_begin_168 ?_
                      exact W.iret (v := (nI ((gL a1 (a2 + d / 365)) - a4))) hx hb hr (fun t ht hW => ⟨⟨(nI ((gL a1 (a2 + d / 365)) - a4)), wM g0 g1 g2 g3 g4 cI cJ d r (d + 1) a1 ((gL a1 (a2 + d / 365)) - a4) 1 (k + 1) (dr + a4) pn pa pi 0 (va_up (va_up ga 0 a2) 1 a3) e2 (va_up b k (a4 * 10000)) (va_up rt k r), rfl, Or.inr (Or.inr ⟨by omega, by omega, Or.inr (Or.inl ⟨by omega, by omega, by omega, rfl, rfl⟩)⟩), by rw [ht]; exact hP, va_K.moved hW.alike hK, hD⟩, hS.F ht⟩) hS.2.2 dX1_begin_171
                  · refine lv_aload_n hx hb dX1_begin_121 rfl (lv_at hl 1 rfl) ?_
                    refine lv_iconst (v := nI 0) hx hb dX1_begin_122 (by decide +kernel) ?_
                    refine va_put (D := D) (ci := 1) (v := .int (nI 0)) (ty := .int) (C := RX1) (T := TX1) (N := 16) hx hb hts hin tyX1 tyX1_ok nmX1 hown hK hP hD hS 0 rfl rfl 5 (by decide) f30 (fun _ h9 => h9) rfl (by decide +kernel) rfl rfl (Nat.le_of_ble_eq_true rfl) dX1_begin_123 (fun H locs hP hD hS => ?_)
                    have hP : va_P D vwCl (wM g0 g1 g2 g3 g4 cI cJ d r gb w rm 0 k dr pn pa pi 0 (va_up (va_up ga 0 a2) 1 a3) e2 b rt) H := hP
                    have hD : va_D A (wM g0 g1 g2 g3 g4 cI cJ d r gb w rm 0 k dr pn pa pi 0 (va_up (va_up ga 0 a2) 1 a3) e2 b rt) := hD
                    refine lv_aload_n hx hb dX1_begin_126 rfl (lv_at hl 1 rfl) ?_
                    refine lv_iconst (v := nI 2) hx hb dX1_begin_127 (by decide +kernel) ?_
                    refine nk_icall (wr := []) (va_runV (As := [.int (nI 2)]) (rest := []) ⟨hx, hb, hml, hown, hts⟩ (c_X1_fails l D g0 g1 g2 g3 g4 cI cJ d r gb w rm 0 k dr pn pa pi 0 (va_up (va_up ga 0 a2) 1 a3) e2 b rt H.size 2) (cwV 1 hts gX1_begin_X1_fails rfl rfl rfl (by decide +kernel) ⟨Nat.le_of_ble_eq_true rfl, Nat.le_of_ble_eq_true rfl⟩) ⟨nk_Pw.blind, va_recv hK hP (ci := 1) (q0 := 0) rfl rfl, fun U hU hW => ⟨rfl, by rw [hU], by rw [hU]; exact hP, va_K.moved hW.alike hK, hD.weaken (fun _ _ _ _ => trivial)⟩⟩ rfl rfl hl.1 rfl (lv_room (Nat.le_of_ble_eq_true rfl)) dX1_begin_128 ⟨Nat.zero_le _, Nat.zero_le _⟩) hP hD hS hA [0, 1, 2, 3, 4] [] rfl rfl rfl (by decide) (fun r128 w1 H locs hw hP hD hS hk9 => ?_)
                    obtain ⟨hv9, rfl⟩ := hw
                    subst hv9
                    have hP : va_P D vwCl (wM g0 g1 g2 g3 g4 cI cJ d r gb w rm 0 k dr pn pa pi 2 (va_up (va_up ga 0 a2) 1 a3) e2 b rt) H := hP
                    have hD : va_D A (wM g0 g1 g2 g3 g4 cI cJ d r gb w rm 0 k dr pn pa pi 2 (va_up (va_up ga 0 a2) 1 a3) e2 b rt) := hD
                    exact W.iret (v := (nI 0)) hx hb hr (fun t ht hW => ⟨⟨(nI 0), wM g0 g1 g2 g3 g4 cI cJ d r gb w rm 0 k dr pn pa pi 2 (va_up (va_up ga 0 a2) 1 a3) e2 b rt, rfl, Or.inr (Or.inl ⟨by omega, Or.inr ⟨by omega, Or.inl ⟨by omega, by omega⟩, rfl⟩⟩), by rw [ht]; exact hP, va_K.moved hW.alike hK, hD⟩, hS.F ht⟩) hS.2.2 dX1_begin_131
              · refine lv_aload_n hx hb dX1_begin_74 rfl (lv_at hl 0 rfl) ?_
                refine lv_iconst (v := nI 2) hx hb dX1_begin_75 (by decide +kernel) ?_
                refine nk_icall (wr := []) (va_runV (As := [.int (nI 2)]) (rest := []) ⟨hx, hb, hml, hown, hts⟩ (c_X1_fails l D g0 g1 g2 g3 g4 cI cJ d r gb w rm lc k dr pn pa pi 0 ga e2 b rt H.size 2) (cwV 1 hts gX1_begin_X1_fails rfl rfl rfl (by decide +kernel) ⟨Nat.le_of_ble_eq_true rfl, Nat.le_of_ble_eq_true rfl⟩) ⟨nk_Pw.blind, va_recv hK hP (ci := 1) (q0 := 0) rfl rfl, fun U hU hW => ⟨rfl, by rw [hU], by rw [hU]; exact hP, va_K.moved hW.alike hK, hD.weaken (fun _ _ _ _ => trivial)⟩⟩ rfl rfl hl.1 rfl (lv_room (Nat.le_of_ble_eq_true rfl)) dX1_begin_76 ⟨Nat.zero_le _, Nat.zero_le _⟩) hP hD hS hA [0, 1, 2, 3, 4] [] rfl rfl rfl (by decide) (fun r76 w1 H locs hw hP hD hS hk9 => ?_)
                obtain ⟨hv9, rfl⟩ := hw
                subst hv9
                have hP : va_P D vwCl (wM g0 g1 g2 g3 g4 cI cJ d r gb w rm lc k dr pn pa pi 2 ga e2 b rt) H := hP
                have hD : va_D A (wM g0 g1 g2 g3 g4 cI cJ d r gb w rm lc k dr pn pa pi 2 ga e2 b rt) := hD
                exact W.iret (v := (nI 0)) hx hb hr (fun t ht hW => ⟨⟨(nI 0), wM g0 g1 g2 g3 g4 cI cJ d r gb w rm lc k dr pn pa pi 2 ga e2 b rt, rfl, Or.inr (Or.inl ⟨by omega, Or.inl ⟨c71, rfl⟩⟩), by rw [ht]; exact hP, va_K.moved hW.alike hK, hD⟩, hS.F ht⟩) hS.2.2 dX1_begin_79
            · exfalso; omega
