set_option maxHeartbeats 4000000 in
set_option maxRecDepth 100000 in
theorem c_L_low (l : Launch) (x9 : Int32) (n9 : Nat) (hn0 : 0 < n9) (hn1 : n9 < 2147483648) : Met l yL_low wsL_low { frames := 0, cells := 0, slots := 0, locals := 0 } (nk_P0 [.int x9, .int (nI n9)]) (nk_Rd (some (.int (nI (lwV x9 n9))))) 0 0 (fun _ => False) := by
  refine Met.ofW (cc := cL_low) (maxL := 2) (ret := (some .int)) (by decide) rfl ?_
  intro p e s m args below meth c s₁ B hml hv
  obtain ⟨hargs, -⟩ := hv
  have hx := B.exec
  have hb := B.bytes
  have hr := B.returns
  have hts := atoms_spec (ws := wsL_low) B.pre
  have hown : s.vm.findClass RL = some m.cls := findClass_of_methodNamed B.named
  have hlocks := B.notSynchronized
  have k7 : (Cond.constant RL 7 (nI 2147483647)).before args s = true := by
    rw [show (nI 2147483647 : Int32) = 2147483647 from by decide +kernel]
    exact hts (.constant RL 7 (2147483647)) (by decide +kernel)
  have hl := lv_entry ([.int x9, .int (nI n9)]) (n := 2) (Nat.le_of_ble_eq_true rfl)
  have hEe : entryFrame m args 2 = entryFrame m ([.int x9, .int (nI n9)] : List Value).toArray 2 := by rw [hargs]
  rw [hEe, lg_entry_eq]
  generalize (lg_sl ([.int x9, .int (nI n9)]) ++ List.replicate (2 - (lg_sl ([.int x9, .int (nI n9)])).length) Slot.unset).toArray = ls at hl ⊢
  have hl : lv_has ls 2 [(0, .int x9), (1, .int (nI n9))] := hl
  refine lv_iload_n hx hb dL_low_0 rfl (lv_at hl 0 rfl) ?_
  refine lv_ldc (v := nI 2147483647) hx hb hown k7 dL_low_1 ?_
  refine lv_iand hx hb dL_low_3 ?_
  refine nk_topi (y := nI (x9.toBitVec.toNat % 2 ^ 31)) (nk_and31 x9) ?_
  refine lv_iload_n hx hb dL_low_4 rfl (lv_at hl 1 rfl) ?_
  refine nk_irem hx hb (by omega) (by omega) (by omega) dL_low_5 ?_
  refine nk_topi (y := (nI (lwV x9 n9))) rfl ?_
  exact W.iret hx hb hr (fun t ht hW => ⟨rfl, ht⟩) (fun z h => nomatch h) dL_low_6
set_option maxHeartbeats 4000000 in
set_option maxRecDepth 100000 in
theorem c_L_cell (l : Launch) (b L : Nat) (xs : Nat → Int32) (k : Nat) (hL : L ≤ 260) (hk : k ≤ 1000) : Met l yL_cell wsL_cell { frames := 0, cells := 0, slots := 0, locals := 0 } (nk_Psc b L xs [.ref b, .int (nI k)]) (nk_Rd (some (.int (cellV L xs k)))) 0 0 (fun _ => False) := by
  refine Met.ofW (cc := cL_cell) (maxL := 2) (ret := (some .int)) (by decide) rfl ?_
  intro p e s m args below meth c s₁ B hml hv
  obtain ⟨hargs, hX, hbl⟩ := hv
  have hx := B.exec
  have hb := B.bytes
  have hr := B.returns
  have hts := atoms_spec (ws := wsL_cell) B.pre
  have hown : s.vm.findClass RL = some m.cls := findClass_of_methodNamed B.named
  have hlocks := B.notSynchronized
  have hS : va_S (fun _ => False) s.heap s.heap [] := va_S.rf
  have hl := lv_entry ([.ref b, .int (nI k)]) (n := 2) (Nat.le_of_ble_eq_true rfl)
  have hEe : entryFrame m args 2 = entryFrame m ([.ref b, .int (nI k)] : List Value).toArray 2 := by rw [hargs]
  rw [hEe, lg_entry_eq]
  generalize (lg_sl ([.ref b, .int (nI k)]) ++ List.replicate (2 - (lg_sl ([.ref b, .int (nI k)])).length) Slot.unset).toArray = ls at hl ⊢
  have hl : lv_has ls 2 [(0, .ref b), (1, .int (nI k))] := hl
  have k8 : (Cond.constant RL 8 (nI 40503)).before args s = true := by
    rw [show (nI 40503 : Int32) = 40503 from by decide +kernel]
    exact hts (.constant RL 8 (40503)) (by decide +kernel)
  refine lv_iload_n hx hb dL_cell_0 rfl (lv_at hl 1 rfl) ?_
  refine lv_aload_n hx hb dL_cell_1 rfl (lv_at hl 0 rfl) ?_
  refine va_slen hx hb hX hbl (fun q => q) hS dL_cell_2 ?_
  refine nk_topi (y := nI L) rfl ?_
  refine nk_icmp_ge (tgt := 12) hx hb (by omega) (by omega) dL_cell_3 (by decide) (fun c3 => ?_) (fun c3 => ?_)
  · refine lv_ldc (v := nI 40503) hx hb hown k8 dL_cell_12 ?_
    refine lv_iload_n hx hb dL_cell_14 rfl (lv_at hl 1 rfl) ?_
    refine nk_imul hx hb dL_cell_15 ?_
    refine lv_sipush (v := nI 977) hx hb dL_cell_16 (by decide +kernel) ?_
    refine nk_iadd hx hb dL_cell_19 ?_
    refine nk_topi (y := cellV L xs k) (by unfold cellV; rw [if_neg (by omega)]) ?_
    exact W.iret hx hb hr (fun t ht hW => ⟨rfl, ht⟩) (fun z h => nomatch h) dL_cell_20
  · refine lv_aload_n hx hb dL_cell_6 rfl (lv_at hl 0 rfl) ?_
    refine lv_iload_n hx hb dL_cell_7 rfl (lv_at hl 1 rfl) ?_
    refine va_sld hx hb hX hbl (fun q => q) hS (vp_in_nI (by omega) (by omega)) dL_cell_8 ?_
    refine nk_topi (y := cellV L xs k) (by rw [nI_clamp (by omega)]; unfold cellV; rw [if_pos c3]) ?_
    refine lv_goto (tgt := 20) hx hb dL_cell_9 (by decide) ?_
    exact W.iret hx hb hr (fun t ht hW => ⟨rfl, ht⟩) (fun z h => nomatch h) dL_cell_20
set_option maxHeartbeats 8000000 in
set_option maxRecDepth 100000 in
theorem c_L_holds (l : Launch) (hfl : l.stackTraces = false) (D : va_G) (h0 h1 h2 h3 h4 h5 h6 h7 h8 h9 : Nat) (cI cJ : ClassId) (d r lc bg w rm k pn : Nat) (fa e1 am dd rt b pd pt tp : Nat → Nat) (sz : Nat) (gb dr pa pi : Nat) (ga e2 : Nat → Nat)  (hI : Inv d r lc bg w rm k pn fa e1 am dd rt b pd pt tp gb dr pa pi ga e2) : Met l yL_holds wsL_holds { frames := 7, cells := 1, slots := 6, locals := 113 } (nk_Px D (wX h0 h1 h2 h3 h4 h5 h6 h7 h8 h9 cI cJ d r lc bg w rm k pn fa e1 am dd rt b pd pt tp) (tX cI cJ) sz [.ref h0]) (nk_Rd (some (.int (nI 1)))) 1 6 (fun _ => False) := by
  refine Met.ofW (cc := cL_holds) (maxL := 6) (ret := (some .boolean)) (by decide) rfl ?_
  intro p e s m args below meth c s₁ B hml hv
  obtain ⟨hargs, hsz, hP, hK, hD0, hZ⟩ := hv
  have hx := B.exec
  have hb := B.bytes
  have hr := B.returns
  have hts := atoms_spec (ws := wsL_holds) B.pre
  have hown : s.vm.findClass RL = some m.cls := findClass_of_methodNamed B.named
  have hlocks := B.notSynchronized
  subst hsz
  have hD := hD0.self (sz := s.heap.size)
  have hA : ∀ q : Nat, s.heap.size ≤ q → (fun q => s.heap.size ≤ q) q := fun q h => h
  have hS : va_S (fun q => s.heap.size ≤ q) s.heap s.heap [] := va_S.rf
  have hl := lv_entry ([.ref h0]) (n := 6) (Nat.le_of_ble_eq_true rfl)
  have hEe : entryFrame m args 6 = entryFrame m ([.ref h0] : List Value).toArray 6 := by rw [hargs]
  rw [hEe, lg_entry_eq]
  generalize (lg_sl ([.ref h0]) ++ List.replicate (6 - (lg_sl ([.ref h0])).length) Slot.unset).toArray = ls at hl ⊢
  have hl : lv_has ls 6 [(0, .ref h0)] := hl
  obtain ⟨hlc, hd, hk, hpn, hbg, hw, hrm, he, hed, hfa, ham, hpd, hpd2, hpt, hbs, hb9, hrt, hdd, hroll, hh1, hh2, hh3, htp, hsa, hk0, he2, he2d, hga, hgb, hgb2, hpi, hdr, hpa1, he20, he21, hk0m, he28, hgbz, halE, hmxE, hlsE⟩ := Inv_f hI
  have hbs9 := hbs
  have hbs : sm _ _ < 4611686018427387904 := Nat.lt_trans hbs9 (by decide)
  have hD9 : ceilA (sm b k) < 200000000000000 := by unfold ceilA; omega
  have hs1 := scA_ge b k
  have hs2 := scA_le b k
  have hs3 := scA_lt b k
  have hs4 : k = 0 → scA b k = 0 ∧ sm b k = 0 := scA_0
  have hs5 := sm_le k ham
  have hag := agE_in (f := e1) (y := d / 365) hfa (by omega)
  refine lv_aload_n hx hb dL_holds_0 rfl (lv_at hl 0 rfl) ?_
  refine nk_rd (W.runV (As := []) (rest := []) ⟨hx, hb, hml, hown, hts⟩ (c_X0_debt l D h0 h1 h2 h3 h4 h5 h6 h7 h8 h9 cI cJ d r lc bg w rm k pn fa e1 am dd rt b pd pt tp hk hbs) (cwV 0 hts gL_holds_X0_debt rfl rfl rfl (by decide +kernel) ⟨Nat.le_of_ble_eq_true rfl, Nat.le_of_ble_eq_true rfl⟩) ⟨nk_Pr.blind, va_recv hK hP (ci := 0) (q0 := 0) rfl rfl, fun U hU hW => ⟨rfl, by rw [hU]; exact hP, va_K.moved hW.alike hK⟩⟩ rfl rfl hl.1 rfl (lv_room (Nat.le_of_ble_eq_true rfl)) dL_holds_1 ⟨Nat.le_of_ble_eq_true rfl, Nat.le_of_ble_eq_true rfl⟩) ?_
  refine W.eq (g2 := F0 m 4 ls [.long (lN (ceilA (sm b k)))]) rfl ?_
  refine lv_lstore_n (lv' := [(1, .long (lN (ceilA (sm b k)))), (0, .ref h0)]) hx hb dL_holds_4 rfl hl (by decide) rfl (fun ls hl => ?_)
  refine lv_lconst (v := lN 0) hx hb dL_holds_5 (by decide +kernel) ?_
  refine lv_lstore_n (lv' := [(3, .long (lN 0)), (1, .long (lN (ceilA (sm b k)))), (0, .ref h0)]) hx hb dL_holds_6 rfl hl (by decide) rfl (fun ls hl => ?_)
  refine lv_iconst (v := nI 0) hx hb dL_holds_7 (by decide +kernel) ?_
  refine lv_istore (lv' := [(5, .int (nI 0)), (3, .long (lN 0)), (1, .long (lN (ceilA (sm b k)))), (0, .ref h0)]) hx hb dL_holds_8 hl (by decide) rfl (fun ls hl => ?_)
  have loop10 : ∀ (n : Nat) (i : Nat), (i ≤ k) → k + 1 ≤ i + n → ∀ ls : Array Slot, lv_has ls 6 [(0, .ref h0), (1, .long (lN (ceilA (sm b k)))), (3, .long (lN (scA b i))), (5, .int (nI i))] → W p l e (headSpec wsL_holds { frames := 7, cells := 1, slots := 6, locals := 113 }).room s m args below meth c s.heap [] (0) (0) (MQ below (nk_Rd (some (.int (nI 1)))) args s 1 6 (fun _ => False)) (F0 m 10 ls []) := by
    intro n
    induction n with
    | zero =>
      intro i hi hm
      exfalso; omega
    | succ n ih10 =>
      intro i hi hm ls hl
      refine lv_iload hx hb dL_holds_10 (lv_at hl 3 rfl) ?_
      refine lv_aload_n hx hb dL_holds_12 rfl (lv_at hl 0 rfl) ?_
      refine nk_rd (W.runV (As := []) (rest := [.int (nI i)]) ⟨hx, hb, hml, hown, hts⟩ (c_X0_drawings l D h0 h1 h2 h3 h4 h5 h6 h7 h8 h9 cI cJ d r lc bg w rm k pn fa e1 am dd rt b pd pt tp) (cwV 0 hts gL_holds_X0_drawings rfl rfl rfl (by decide +kernel) ⟨Nat.le_of_ble_eq_true rfl, Nat.le_of_ble_eq_true rfl⟩) ⟨nk_Pr.blind, va_recv hK hP (ci := 0) (q0 := 0) rfl rfl, fun U hU hW => ⟨rfl, by rw [hU]; exact hP, va_K.moved hW.alike hK⟩⟩ rfl rfl hl.1 rfl (lv_room (Nat.le_of_ble_eq_true rfl)) dL_holds_13 ⟨Nat.le_of_ble_eq_true rfl, Nat.le_of_ble_eq_true rfl⟩) ?_
      refine W.eq (g2 := F0 m 16 ls [.int (nI k), .int (nI i)]) rfl ?_
      refine nk_icmp_ge (tgt := 34) hx hb (by omega) (by omega) dL_holds_16 (by decide) (fun c16 => ?_) (fun c16 => ?_)
      · have e9 : i = k := by omega
        rw [e9] at hl
        refine lv_lload_n hx hb dL_holds_34 rfl (lv_at hl 1 rfl) ?_
        refine lv_aload_n hx hb dL_holds_35 rfl (lv_at hl 0 rfl) ?_
        refine nk_rd (W.runV (As := []) (rest := [.long (lN (ceilA (sm b k)))]) ⟨hx, hb, hml, hown, hts⟩ (c_X0_debtAnew l D h0 h1 h2 h3 h4 h5 h6 h7 h8 h9 cI cJ d r lc bg w rm k pn fa e1 am dd rt b pd pt tp hpn hk hlc he hd ham hrt hdd hpd2 hh1 hh2 hh3 htp (by rw [hsa]; omega)) (cwV 0 hts gL_holds_X0_debtAnew rfl rfl rfl (by decide +kernel) ⟨Nat.le_of_ble_eq_true rfl, Nat.le_of_ble_eq_true rfl⟩) ⟨nk_Pr.blind, va_recv hK hP (ci := 0) (q0 := 0) rfl rfl, fun U hU hW => ⟨rfl, by rw [hU]; exact hP, va_K.moved hW.alike hK⟩⟩ rfl rfl hl.1 rfl (lv_room (Nat.le_of_ble_eq_true rfl)) dL_holds_36 ⟨Nat.le_of_ble_eq_true rfl, Nat.le_of_ble_eq_true rfl⟩) ?_
        refine W.eq (g2 := F0 m 39 ls [.long (lN (ceilA (sm (anw am dd rt pd tp (dyE d lc e1) pn) k))), .long (lN (ceilA (sm b k)))]) rfl ?_
        refine nk_topl (y := (lN (ceilA (sm b k)))) (by rw [hsa]) ?_
        refine nk_lcmp_ne (tgt := 85) hx hb (by omega) (by omega) dL_holds_39 dL_holds_40 (by decide) (fun c39 => ?_) (fun c39 => ?_)
        · exfalso; omega
        · refine lv_lload_n hx hb dL_holds_43 rfl (lv_at hl 1 rfl) ?_
          refine lv_lconst (v := lN 0) hx hb dL_holds_44 (by decide +kernel) ?_
          refine nk_lcmp_lt (tgt := 85) hx hb (by omega) (by omega) dL_holds_45 dL_holds_46 (by decide) (fun c45 => ?_) (fun c45 => ?_)
          · exfalso; omega
          · refine lv_lload_n hx hb dL_holds_49 rfl (lv_at hl 1 rfl) ?_
            refine lv_lload_n hx hb dL_holds_50 rfl (lv_at hl 2 rfl) ?_
            refine nk_lcmp_gt (tgt := 85) hx hb (by omega) (by omega) dL_holds_51 dL_holds_52 (by decide) (fun c51 => ?_) (fun c51 => ?_)
            · exfalso; omega
            · refine lv_lload_n hx hb dL_holds_55 rfl (lv_at hl 1 rfl) ?_
              refine lv_lload_n hx hb dL_holds_56 rfl (lv_at hl 2 rfl) ?_
              refine lv_aload_n hx hb dL_holds_57 rfl (lv_at hl 0 rfl) ?_
              refine nk_rd (W.runV (As := []) (rest := [.long (lN (scA b k)), .long (lN (ceilA (sm b k)))]) ⟨hx, hb, hml, hown, hts⟩ (c_X0_drawings l D h0 h1 h2 h3 h4 h5 h6 h7 h8 h9 cI cJ d r lc bg w rm k pn fa e1 am dd rt b pd pt tp) (cwV 0 hts gL_holds_X0_drawings rfl rfl rfl (by decide +kernel) ⟨Nat.le_of_ble_eq_true rfl, Nat.le_of_ble_eq_true rfl⟩) ⟨nk_Pr.blind, va_recv hK hP (ci := 0) (q0 := 0) rfl rfl, fun U hU hW => ⟨rfl, by rw [hU]; exact hP, va_K.moved hW.alike hK⟩⟩ rfl rfl hl.1 rfl (lv_room (Nat.le_of_ble_eq_true rfl)) dL_holds_58 ⟨Nat.le_of_ble_eq_true rfl, Nat.le_of_ble_eq_true rfl⟩) ?_
              refine W.eq (g2 := F0 m 61 ls [.int (nI k), .long (lN (scA b k)), .long (lN (ceilA (sm b k)))]) rfl ?_
              refine nk_i2l hx hb (by omega) dL_holds_61 ?_
              refine lv_lsub hx hb dL_holds_62  ?_
              refine lv_aload_n hx hb dL_holds_63 rfl (lv_at hl 0 rfl) ?_
              refine nk_rd (W.runV (As := []) (rest := [.long ((lN (scA b k)) - (lN k)), .long (lN (ceilA (sm b k)))]) ⟨hx, hb, hml, hown, hts⟩ (c_X0_drawings l D h0 h1 h2 h3 h4 h5 h6 h7 h8 h9 cI cJ d r lc bg w rm k pn fa e1 am dd rt b pd pt tp) (cwV 0 hts gL_holds_X0_drawings rfl rfl rfl (by decide +kernel) ⟨Nat.le_of_ble_eq_true rfl, Nat.le_of_ble_eq_true rfl⟩) ⟨nk_Pr.blind, va_recv hK hP (ci := 0) (q0 := 0) rfl rfl, fun U hU hW => ⟨rfl, by rw [hU]; exact hP, va_K.moved hW.alike hK⟩⟩ rfl rfl hl.1 rfl (lv_room (Nat.le_of_ble_eq_true rfl)) dL_holds_64 ⟨Nat.le_of_ble_eq_true rfl, Nat.le_of_ble_eq_true rfl⟩) ?_
              refine W.eq (g2 := F0 m 67 ls [.int (nI k), .long ((lN (scA b k)) - (lN k)), .long (lN (ceilA (sm b k)))]) rfl ?_
              have kj75 : ∀ (q9 : Nat), ((q9 = 1 ∧ k = 0) ∨ (q9 = 0 ∧ 0 < k)) → W p l e (headSpec wsL_holds { frames := 7, cells := 1, slots := 6, locals := 113 }).room s m args below meth c s.heap [] (0) (0) (MQ below (nk_Rd (some (.int (nI 1)))) args s 1 6 (fun _ => False)) (F0 m 75 ls [.int (nI q9), .long ((lN (scA b k)) - (lN k)), .long (lN (ceilA (sm b k)))]) := by
                intro q9 hq9
                refine nk_i2l hx hb (by omega) dL_holds_75 ?_
                refine lv_lsub hx hb dL_holds_76  ?_
                refine nk_ZL_le (tgt := 85) hx hb (pk_lT (by omega)) (nk_sub2L (by omega) (by omega) (by omega)) dL_holds_77 dL_holds_78 (by decide) (fun c77 => ?_) (fun c77 => ?_)
                · exfalso; omega
                · refine lv_iconst (v := nI 1) hx hb dL_holds_81 (by decide +kernel) ?_
                  refine lv_goto (tgt := 86) hx hb dL_holds_82 (by decide) ?_
                  refine lv_istore (lv' := [(5, .int (nI 1)), (0, .ref h0), (1, .long (lN (ceilA (sm b k)))), (3, .long (lN (scA b k)))]) hx hb dL_holds_86 hl (by decide) rfl (fun ls hl => ?_)
                  refine lv_iload hx hb dL_holds_88 (lv_at hl 0 rfl) ?_
                  refine nk_if_eq (tgt := 152) hx hb (by omega) dL_holds_90 (by decide) (fun c90 => ?_) (fun c90 => ?_)
                  · exfalso; omega
                  · refine lv_aload_n hx hb dL_holds_93 rfl (lv_at hl 1 rfl) ?_
                    refine nk_rd (W.runV (As := []) (rest := []) ⟨hx, hb, hml, hown, hts⟩ (c_X0_owed l D h0 h1 h2 h3 h4 h5 h6 h7 h8 h9 cI cJ d r lc bg w rm k pn fa e1 am dd rt b pd pt tp hk hbs hw) (cwV 0 hts gL_holds_X0_owed rfl rfl rfl (by decide +kernel) ⟨Nat.le_of_ble_eq_true rfl, Nat.le_of_ble_eq_true rfl⟩) ⟨nk_Pr.blind, va_recv hK hP (ci := 0) (q0 := 0) rfl rfl, fun U hU hW => ⟨rfl, by rw [hU]; exact hP, va_K.moved hW.alike hK⟩⟩ rfl rfl hl.1 rfl (lv_room (Nat.le_of_ble_eq_true rfl)) dL_holds_94 ⟨Nat.le_of_ble_eq_true rfl, Nat.le_of_ble_eq_true rfl⟩) ?_
                    refine W.eq (g2 := F0 m 97 ls [.long (lN (min (ceilA (sm b k)) w))]) rfl ?_
                    refine lv_lload_n hx hb dL_holds_97 rfl (lv_at hl 2 rfl) ?_
                    refine lv_aload_n hx hb dL_holds_98 rfl (lv_at hl 1 rfl) ?_
                    refine nk_rd (W.runV (As := []) (rest := [.long (lN (ceilA (sm b k))), .long (lN (min (ceilA (sm b k)) w))]) ⟨hx, hb, hml, hown, hts⟩ (c_X0_worth l D h0 h1 h2 h3 h4 h5 h6 h7 h8 h9 cI cJ d r lc bg w rm k pn fa e1 am dd rt b pd pt tp) (cwV 0 hts gL_holds_X0_worth rfl rfl rfl (by decide +kernel) ⟨Nat.le_of_ble_eq_true rfl, Nat.le_of_ble_eq_true rfl⟩) ⟨nk_Pr.blind, va_recv hK hP (ci := 0) (q0 := 0) rfl rfl, fun U hU hW => ⟨rfl, by rw [hU]; exact hP, va_K.moved hW.alike hK⟩⟩ rfl rfl hl.1 rfl (lv_room (Nat.le_of_ble_eq_true rfl)) dL_holds_99 ⟨Nat.le_of_ble_eq_true rfl, Nat.le_of_ble_eq_true rfl⟩) ?_
                    refine W.eq (g2 := F0 m 102 ls [.int (nI w), .long (lN (ceilA (sm b k))), .long (lN (min (ceilA (sm b k)) w))]) rfl ?_
                    refine nk_i2l hx hb (by omega) dL_holds_102 ?_
                    have kj116 : W p l e (headSpec wsL_holds { frames := 7, cells := 1, slots := 6, locals := 113 }).room s m args below meth c s.heap [] (0) (0) (MQ below (nk_Rd (some (.int (nI 1)))) args s 1 6 (fun _ => False)) (F0 m 116 ls [.long (lN (min (ceilA (sm b k)) w)), .long (lN (min (ceilA (sm b k)) w))]) := by
                      refine nk_lcmp_ne (tgt := 152) hx hb (by omega) (by omega) dL_holds_116 dL_holds_117 (by decide) (fun c116 => ?_) (fun c116 => ?_)
                      · exfalso; omega
                      · refine lv_aload_n hx hb dL_holds_120 rfl (lv_at hl 1 rfl) ?_
                        refine nk_rd (W.runV (As := []) (rest := []) ⟨hx, hb, hml, hown, hts⟩ (c_X0_spared l D h0 h1 h2 h3 h4 h5 h6 h7 h8 h9 cI cJ d r lc bg w rm k pn fa e1 am dd rt b pd pt tp hk hbs hw) (cwV 0 hts gL_holds_X0_spared rfl rfl rfl (by decide +kernel) ⟨Nat.le_of_ble_eq_true rfl, Nat.le_of_ble_eq_true rfl⟩) ⟨nk_Pr.blind, va_recv hK hP (ci := 0) (q0 := 0) rfl rfl, fun U hU hW => ⟨rfl, by rw [hU]; exact hP, va_K.moved hW.alike hK⟩⟩ rfl rfl hl.1 rfl (lv_room (Nat.le_of_ble_eq_true rfl)) dL_holds_121 ⟨Nat.le_of_ble_eq_true rfl, Nat.le_of_ble_eq_true rfl⟩) ?_
                        refine W.eq (g2 := F0 m 124 ls [.long (lN (ceilA (sm b k) - min (ceilA (sm b k)) w))]) rfl ?_
                        refine lv_lload_n hx hb dL_holds_124 rfl (lv_at hl 2 rfl) ?_
                        refine lv_aload_n hx hb dL_holds_125 rfl (lv_at hl 1 rfl) ?_
                        refine nk_rd (W.runV (As := []) (rest := [.long (lN (ceilA (sm b k))), .long (lN (ceilA (sm b k) - min (ceilA (sm b k)) w))]) ⟨hx, hb, hml, hown, hts⟩ (c_X0_owed l D h0 h1 h2 h3 h4 h5 h6 h7 h8 h9 cI cJ d r lc bg w rm k pn fa e1 am dd rt b pd pt tp hk hbs hw) (cwV 0 hts gL_holds_X0_owed rfl rfl rfl (by decide +kernel) ⟨Nat.le_of_ble_eq_true rfl, Nat.le_of_ble_eq_true rfl⟩) ⟨nk_Pr.blind, va_recv hK hP (ci := 0) (q0 := 0) rfl rfl, fun U hU hW => ⟨rfl, by rw [hU]; exact hP, va_K.moved hW.alike hK⟩⟩ rfl rfl hl.1 rfl (lv_room (Nat.le_of_ble_eq_true rfl)) dL_holds_126 ⟨Nat.le_of_ble_eq_true rfl, Nat.le_of_ble_eq_true rfl⟩) ?_
                        refine W.eq (g2 := F0 m 129 ls [.long (lN (min (ceilA (sm b k)) w)), .long (lN (ceilA (sm b k))), .long (lN (ceilA (sm b k) - min (ceilA (sm b k)) w))]) rfl ?_
                        refine nk_lsub hx hb (Nat.min_le_left _ _) dL_holds_129 ?_
                        refine nk_lcmp_ne (tgt := 152) hx hb (by omega) (by omega) dL_holds_130 dL_holds_131 (by decide) (fun c130 => ?_) (fun c130 => ?_)
                        · exfalso; omega
                        · refine lv_aload_n hx hb dL_holds_134 rfl (lv_at hl 1 rfl) ?_
                          refine nk_rd (W.runV (As := []) (rest := []) ⟨hx, hb, hml, hown, hts⟩ (c_X0_room l D h0 h1 h2 h3 h4 h5 h6 h7 h8 h9 cI cJ d r lc bg w rm k pn fa e1 am dd rt b pd pt tp) (cwV 0 hts gL_holds_X0_room rfl rfl rfl (by decide +kernel) ⟨Nat.le_of_ble_eq_true rfl, Nat.le_of_ble_eq_true rfl⟩) ⟨nk_Pr.blind, va_recv hK hP (ci := 0) (q0 := 0) rfl rfl, fun U hU hW => ⟨rfl, by rw [hU]; exact hP, va_K.moved hW.alike hK⟩⟩ rfl rfl hl.1 rfl (lv_room (Nat.le_of_ble_eq_true rfl)) dL_holds_135 ⟨Nat.le_of_ble_eq_true rfl, Nat.le_of_ble_eq_true rfl⟩) ?_
                          refine W.eq (g2 := F0 m 138 ls [.int (nI rm)]) rfl ?_
                          refine nk_if_ltN (tgt := 152) hx hb (by omega) dL_holds_138 (by decide) ?_
                          refine lv_aload_n hx hb dL_holds_141 rfl (lv_at hl 1 rfl) ?_
                          refine nk_rd (W.runV (As := []) (rest := []) ⟨hx, hb, hml, hown, hts⟩ (c_X0_allowance l D h0 h1 h2 h3 h4 h5 h6 h7 h8 h9 cI cJ d r lc bg w rm k pn fa e1 am dd rt b pd pt tp hk ham hpn hbg hd hpd hpt) (cwV 0 hts gL_holds_X0_allowance rfl rfl rfl (by decide +kernel) ⟨Nat.le_of_ble_eq_true rfl, Nat.le_of_ble_eq_true rfl⟩) ⟨nk_Pr.blind, va_recv hK hP (ci := 0) (q0 := 0) rfl rfl, fun U hU hW => ⟨rfl, by rw [hU]; exact hP, va_K.moved hW.alike hK⟩⟩ rfl rfl hl.1 rfl (lv_room (Nat.le_of_ble_eq_true rfl)) dL_holds_142 ⟨Nat.le_of_ble_eq_true rfl, Nat.le_of_ble_eq_true rfl⟩) ?_
                          refine W.eq (g2 := F0 m 145 ls [.int (nI (sm am k / 10 - pY bg pd pt ((d - bg) / 365) pn))]) rfl ?_
                          have hs9 : sm am k / 10 ≤ 20000000 := by omega
                          refine nk_if_ltN (tgt := 152) hx hb (by omega) dL_holds_145 (by decide) ?_
                          refine lv_iconst (v := nI 1) hx hb dL_holds_148 (by decide +kernel) ?_
                          refine lv_goto (tgt := 153) hx hb dL_holds_149 (by decide) ?_
                          refine lv_istore (lv' := [(5, .int (nI 1)), (0, .ref h0), (1, .long (lN (ceilA (sm b k)))), (3, .long (lN (scA b k)))]) hx hb dL_holds_153 hl (by decide) rfl (fun ls hl => ?_)
                          refine lv_iload hx hb dL_holds_155 (lv_at hl 0 rfl) ?_
                          refine nk_if_eq (tgt := 196) hx hb (by omega) dL_holds_157 (by decide) (fun c157 => ?_) (fun c157 => ?_)
                          · exfalso; omega
                          · refine lv_aload_n hx hb dL_holds_160 rfl (lv_at hl 1 rfl) ?_
                            refine nk_rd (W.runV (As := []) (rest := []) ⟨hx, hb, hml, hown, hts⟩ (c_X0_age l D h0 h1 h2 h3 h4 h5 h6 h7 h8 h9 cI cJ d r lc bg w rm k pn fa e1 am dd rt b pd pt tp hlc he hfa hd) (cwV 0 hts gL_holds_X0_age rfl rfl rfl (by decide +kernel) ⟨Nat.le_of_ble_eq_true rfl, Nat.le_of_ble_eq_true rfl⟩) ⟨nk_Pr.blind, va_recv hK hP (ci := 0) (q0 := 0) rfl rfl, fun U hU hW => ⟨rfl, by rw [hU]; exact hP, va_K.moved hW.alike hK⟩⟩ rfl rfl hl.1 rfl (lv_room (Nat.le_of_ble_eq_true rfl)) dL_holds_161 ⟨Nat.le_of_ble_eq_true rfl, Nat.le_of_ble_eq_true rfl⟩) ?_
                            refine W.eq (g2 := F0 m 164 ls [.int (nI (agE fa e1 lc (d / 365)) - 1)]) rfl ?_
                            refine lv_iconst (v := -1) hx hb dL_holds_164 (by decide) ?_
                            have kj177 : W p l e (headSpec wsL_holds { frames := 7, cells := 1, slots := 6, locals := 113 }).room s m args below meth c s.heap [] (0) (0) (MQ below (nk_Rd (some (.int (nI 1)))) args s 1 6 (fun _ => False)) (F0 m 177 ls []) := by
                              refine lv_aload_n hx hb dL_holds_177 rfl (lv_at hl 1 rfl) ?_
                              refine nk_rd (W.runV (As := []) (rest := []) ⟨hx, hb, hml, hown, hts⟩ (c_X0_hasEnded l D h0 h1 h2 h3 h4 h5 h6 h7 h8 h9 cI cJ d r lc bg w rm k pn fa e1 am dd rt b pd pt tp hlc he) (cwV 0 hts gL_holds_X0_hasEnded rfl rfl rfl (by decide +kernel) ⟨Nat.le_of_ble_eq_true rfl, Nat.le_of_ble_eq_true rfl⟩) ⟨nk_Pr.blind, va_recv hK hP (ci := 0) (q0 := 0) rfl rfl, fun U hU hW => ⟨rfl, by rw [hU]; exact hP, va_K.moved hW.alike hK⟩⟩ rfl rfl hl.1 rfl (lv_room (Nat.le_of_ble_eq_true rfl)) dL_holds_178 ⟨Nat.le_of_ble_eq_true rfl, Nat.le_of_ble_eq_true rfl⟩) ?_
                              refine W.eq (g2 := F0 m 181 ls [.int (nI (if 0 < lc ∧ alive e1 lc = 0 then 1 else 0))]) rfl ?_
                              refine nk_bif_eq (tgt := 192) hx hb dL_holds_181 (by decide) (fun c181 => ?_) (fun c181 => ?_)
                              · refine lv_iconst (v := nI 1) hx hb dL_holds_192 (by decide +kernel) ?_
                                refine lv_goto (tgt := 197) hx hb dL_holds_193 (by decide) ?_
                                refine W.widen (k := 1) (n := 6) (by decide) (by decide) ?_
                                exact W.zret (ty := .boolean) hx hb hr rfl (fun t ht hW => ⟨rfl, ht⟩) (fun z h => nomatch h) dL_holds_197
                              · have hae : agE fa e1 lc (d / 365) = 0 := agE_end c181.2
                                refine lv_aload_n hx hb dL_holds_184 rfl (lv_at hl 1 rfl) ?_
                                refine nk_rd (W.runV (As := []) (rest := []) ⟨hx, hb, hml, hown, hts⟩ (c_X0_age l D h0 h1 h2 h3 h4 h5 h6 h7 h8 h9 cI cJ d r lc bg w rm k pn fa e1 am dd rt b pd pt tp hlc he hfa hd) (cwV 0 hts gL_holds_X0_age rfl rfl rfl (by decide +kernel) ⟨Nat.le_of_ble_eq_true rfl, Nat.le_of_ble_eq_true rfl⟩) ⟨nk_Pr.blind, va_recv hK hP (ci := 0) (q0 := 0) rfl rfl, fun U hU hW => ⟨rfl, by rw [hU]; exact hP, va_K.moved hW.alike hK⟩⟩ rfl rfl hl.1 rfl (lv_room (Nat.le_of_ble_eq_true rfl)) dL_holds_185 ⟨Nat.le_of_ble_eq_true rfl, Nat.le_of_ble_eq_true rfl⟩) ?_
                                refine W.eq (g2 := F0 m 188 ls [.int (nI (agE fa e1 lc (d / 365)) - 1)]) rfl ?_
                                refine lv_iconst (v := -1) hx hb dL_holds_188 (by decide) ?_
                                refine nk_ecmp_ne (tgt := 196) hx hb (by omega) dL_holds_189 (by decide) (fun c189 => ?_) (fun c189 => ?_)
                                · exfalso; omega
                                · refine lv_iconst (v := nI 1) hx hb dL_holds_192 (by decide +kernel) ?_
                                  refine lv_goto (tgt := 197) hx hb dL_holds_193 (by decide) ?_
                                  refine W.widen (k := 1) (n := 6) (by decide) (by decide) ?_
                                  exact W.zret (ty := .boolean) hx hb hr rfl (fun t ht hW => ⟨rfl, ht⟩) (fun z h => nomatch h) dL_holds_197
                            refine nk_ecmp_eq (tgt := 177) hx hb (by omega) dL_holds_165 (by decide) (fun c165 => ?_) (fun c165 => ?_)
                            · exact kj177
                            · refine lv_aload_n hx hb dL_holds_168 rfl (lv_at hl 1 rfl) ?_
                              refine nk_rd (W.runV (As := []) (rest := []) ⟨hx, hb, hml, hown, hts⟩ (c_X0_age l D h0 h1 h2 h3 h4 h5 h6 h7 h8 h9 cI cJ d r lc bg w rm k pn fa e1 am dd rt b pd pt tp hlc he hfa hd) (cwV 0 hts gL_holds_X0_age rfl rfl rfl (by decide +kernel) ⟨Nat.le_of_ble_eq_true rfl, Nat.le_of_ble_eq_true rfl⟩) ⟨nk_Pr.blind, va_recv hK hP (ci := 0) (q0 := 0) rfl rfl, fun U hU hW => ⟨rfl, by rw [hU]; exact hP, va_K.moved hW.alike hK⟩⟩ rfl rfl hl.1 rfl (lv_room (Nat.le_of_ble_eq_true rfl)) dL_holds_169 ⟨Nat.le_of_ble_eq_true rfl, Nat.le_of_ble_eq_true rfl⟩) ?_
                              refine W.eq (g2 := F0 m 172 ls [.int (nI (agE fa e1 lc (d / 365)) - 1)]) rfl ?_
                              refine lv_bipush (v := nI 55) hx hb dL_holds_172 (by decide +kernel) ?_
                              refine nk_ecmp_lt (tgt := 196) hx hb (by omega) (by omega) dL_holds_174 (by decide) (fun c174 => ?_) (fun c174 => ?_)
                              · exfalso; omega
                              · exact kj177
                    refine nk_lcmp_ge (tgt := 111) hx hb (by omega) (by omega) dL_holds_103 dL_holds_104 (by decide) (fun c103 => ?_) (fun c103 => ?_)
                    · refine lv_aload_n hx hb dL_holds_111 rfl (lv_at hl 1 rfl) ?_
                      refine nk_rd (W.runV (As := []) (rest := [.long (lN (min (ceilA (sm b k)) w))]) ⟨hx, hb, hml, hown, hts⟩ (c_X0_worth l D h0 h1 h2 h3 h4 h5 h6 h7 h8 h9 cI cJ d r lc bg w rm k pn fa e1 am dd rt b pd pt tp) (cwV 0 hts gL_holds_X0_worth rfl rfl rfl (by decide +kernel) ⟨Nat.le_of_ble_eq_true rfl, Nat.le_of_ble_eq_true rfl⟩) ⟨nk_Pr.blind, va_recv hK hP (ci := 0) (q0 := 0) rfl rfl, fun U hU hW => ⟨rfl, by rw [hU]; exact hP, va_K.moved hW.alike hK⟩⟩ rfl rfl hl.1 rfl (lv_room (Nat.le_of_ble_eq_true rfl)) dL_holds_112 ⟨Nat.le_of_ble_eq_true rfl, Nat.le_of_ble_eq_true rfl⟩) ?_
                      refine W.eq (g2 := F0 m 115 ls [.int (nI w), .long (lN (min (ceilA (sm b k)) w))]) rfl ?_
                      refine nk_i2l hx hb (by omega) dL_holds_115 ?_
                      refine nk_topl (y := lN (min (ceilA (sm b k)) w)) (by rw [Nat.min_eq_right (by omega)]) ?_
                      exact kj116
                    · refine lv_lload_n hx hb dL_holds_107 rfl (lv_at hl 2 rfl) ?_
                      refine lv_goto (tgt := 116) hx hb dL_holds_108 (by decide) ?_
                      refine nk_topl (y := lN (min (ceilA (sm b k)) w)) (by rw [Nat.min_eq_left (by omega)]) ?_
                      exact kj116
              refine nk_if_ne (tgt := 74) hx hb (by omega) dL_holds_67 (by decide) (fun c67 => ?_) (fun c67 => ?_)
              · refine lv_iconst (v := nI 0) hx hb dL_holds_74 (by decide +kernel) ?_
                exact kj75 0 (Or.inr ⟨rfl, by omega⟩)
              · refine lv_iconst (v := nI 1) hx hb dL_holds_70 (by decide +kernel) ?_
                refine lv_goto (tgt := 75) hx hb dL_holds_71 (by decide) ?_
                exact kj75 1 (Or.inl ⟨rfl, by omega⟩)
      · refine lv_lload_n hx hb dL_holds_19 rfl (lv_at hl 2 rfl) ?_
        refine lv_aload_n hx hb dL_holds_20 rfl (lv_at hl 0 rfl) ?_
        refine lv_iload hx hb dL_holds_21 (lv_at hl 3 rfl) ?_
        refine nk_rdx (vx_runV (As := [.int (nI i)]) (rest := [.long (lN (scA b i))]) ⟨hx, hb, hml, hown, hts⟩ (c_X0_balance l hfl D h0 h1 h2 h3 h4 h5 h6 h7 h8 h9 cI cJ d r lc bg w rm k pn fa e1 am dd rt b pd pt tp s.heap.size (nI i) ((i : Nat) : Int) i (nI_toInt (by omega)) (fun _ => ⟨rfl, by omega⟩) hk hb9) (cwV 1 hts gL_holds_X0_balance rfl rfl rfl (by decide +kernel) ⟨Nat.le_of_ble_eq_true rfl, Nat.le_of_ble_eq_true rfl⟩) ⟨nk_Px.blind, va_recv hK hP (ci := 0) (q0 := 0) rfl rfl, fun U hU hW => ⟨rfl, by rw [hU], by rw [hU]; exact hP, va_K.moved hW.alike hK, hD.weaken (fun _ _ _ _ => trivial), by rw [hU]; exact nk_Z.go hZ hW (fun _ h => h)⟩⟩ rfl rfl hl.1 rfl (lv_room (Nat.le_of_ble_eq_true rfl)) dL_holds_23 ⟨Nat.le_of_ble_eq_true rfl, Nat.le_of_ble_eq_true rfl⟩) hS hA (fun E ce q9 H1 hE hz hk9 hS1 hce hcv hcl => ?_) (fun hok23 => ?_)
        · exfalso; have h9 := hE.2; omega
        refine W.eq (g2 := F0 m 26 ls [.long (lN (ceilA (b i))), .long (lN (scA b i))]) rfl ?_
        refine nk_ladd hx hb dL_holds_26 ?_
        refine lv_lstore_n (lv' := [(3, .long (lN ((scA b i) + (ceilA (b i))))), (0, .ref h0), (1, .long (lN (ceilA (sm b k)))), (5, .int (nI i))]) hx hb dL_holds_27 rfl hl (by decide) rfl (fun ls hl => ?_)
        refine lv_iinc (v := (nI (i + 1))) (lv' := [(5, .int (nI (i + 1))), (3, .long (lN ((scA b i) + (ceilA (b i))))), (0, .ref h0), (1, .long (lN (ceilA (sm b k))))]) hx hb dL_holds_28 hl (k := 3) rfl (nI_1 _) (by decide) rfl (fun ls hl => ?_)
        refine lv_goto (tgt := 10) hx hb dL_holds_31 (by decide) ?_
        have q9 : ((lN (scA b (i + 1)))) = ((lN ((scA b i) + (ceilA (b i))))) := rfl
        have hl : lv_has ls 6 [(0, .ref h0), (1, .long (lN (ceilA (sm b k)))), (3, .long (lN (scA b (i + 1)))), (5, .int (nI (i + 1)))] := by
          rw [q9]
          exact lv_sub hl [2, 3, 1, 0] rfl
        exact ih10 (i + 1) (by omega) (by omega) ls hl
  exact loop10 (k + 1) 0 (by omega) (by omega) ls (lv_sub hl [3, 2, 1, 0] rfl)
