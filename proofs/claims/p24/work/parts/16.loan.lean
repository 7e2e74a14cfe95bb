/-- a world in which what holds between the calls holds, lives as they were -/
def nk_LW (h0 h1 h2 h3 h4 h5 h6 h7 h8 h9 : Nat) (cI cJ : ClassId) (lc : Nat) (e1 : Nat → Nat) (w1 : va_W) : Prop :=
  ∃ (d r bg w rm k pn : Nat) (fa am dd rt b pd pt tp : Nat → Nat) (gb dr pa pi : Nat) (ga e2 : Nat → Nat), Inv d r lc bg w rm k pn fa e1 am dd rt b pd pt tp gb dr pa pi ga e2 ∧ w1 = wX h0 h1 h2 h3 h4 h5 h6 h7 h8 h9 cI cJ d r lc bg w rm k pn fa e1 am dd rt b pd pt tp
theorem lwV_i {x : Int32} {n : Nat} (h : 0 < n) (h2 : n ≤ 2147483648) : lwV x n < 2147483648 := Nat.lt_of_lt_of_le (lwV_lt h) h2
set_option maxHeartbeats 8000000 in
set_option maxRecDepth 100000 in
theorem c_L_loan (l : Launch) (hfl : l.stackTraces = false) (D : va_G) (h0 h1 h2 h3 h4 h5 h6 h7 h8 h9 : Nat) (cI cJ : ClassId) (d r lc bg w rm k pn : Nat) (fa e1 am dd rt b pd pt tp : Nat → Nat) (sz : Nat) (gb dr pa pi : Nat) (ga e2 : Nat → Nat) (v9 : Int32) (q9 : Nat) (hI : Inv d r lc bg w rm k pn fa e1 am dd rt b pd pt tp gb dr pa pi ga e2) (hlc1 : 0 < lc) (hq9 : q9 < 10) : Met l yL_loan wsL_loan { frames := 9, cells := 2, slots := 12, locals := 160 } (nk_Px D (wX h0 h1 h2 h3 h4 h5 h6 h7 h8 h9 cI cJ d r lc bg w rm k pn fa e1 am dd rt b pd pt tp) (tX cI cJ) sz [.ref h0, .int v9, .int (nI q9)]) (va_Qi (fun r9 w1 => r9 = nI 1 ∧ nk_LW h0 h1 h2 h3 h4 h5 h6 h7 h8 h9 cI cJ lc e1 w1) (fun w1 t => nk_At D (tX cI cJ) (va_A (wX h0 h1 h2 h3 h4 h5 h6 h7 h8 h9 cI cJ d r lc bg w rm k pn fa e1 am dd rt b pd pt tp) sz) w1 t) (va_A (wX h0 h1 h2 h3 h4 h5 h6 h7 h8 h9 cI cJ d r lc bg w rm k pn fa e1 am dd rt b pd pt tp) sz)) 2 12 (va_A (wX h0 h1 h2 h3 h4 h5 h6 h7 h8 h9 cI cJ d r lc bg w rm k pn fa e1 am dd rt b pd pt tp) sz) := by
  refine Met.ofW (cc := cL_loan) (maxL := 9) (ret := (some .boolean)) (by decide) rfl ?_
  intro p e s m args below meth c s₁ B hml hv
  obtain ⟨hargs, hsz, hP, hK, hD0, hZ⟩ := hv
  have hx := B.exec
  have hb := B.bytes
  have hr := B.returns
  have hts := atoms_spec (ws := wsL_loan) B.pre
  have hown : s.vm.findClass RL = some m.cls := findClass_of_methodNamed B.named
  have hlocks := B.notSynchronized
  subst hsz
  have hD := hD0.self (sz := s.heap.size)
  generalize hAe : va_A (wX h0 h1 h2 h3 h4 h5 h6 h7 h8 h9 cI cJ d r lc bg w rm k pn fa e1 am dd rt b pd pt tp) s.heap.size = A at hD hZ ⊢
  have hA : ∀ q : Nat, s.heap.size ≤ q → A q := fun q h => by rw [← hAe]; exact Or.inr h
  have hS : va_S A s.heap s.heap [] := va_S.rf
  have k86 : (Cond.constant RL 86 (nI 10000001)).before args s = true := by
    rw [show (nI 10000001 : Int32) = 10000001 from by decide +kernel]
    exact hts (.constant RL 86 (10000001)) (by decide +kernel)
  have k78 : (Cond.constant RL 78 (nI 10000000)).before args s = true := by
    rw [show (nI 10000000 : Int32) = 10000000 from by decide +kernel]
    exact hts (.constant RL 78 (10000000)) (by decide +kernel)
  have hl := lv_entry ([.ref h0, .int v9, .int (nI q9)]) (n := 9) (Nat.le_of_ble_eq_true rfl)
  have hEe : entryFrame m args 9 = entryFrame m ([.ref h0, .int v9, .int (nI q9)] : List Value).toArray 9 := by rw [hargs]
  rw [hEe, lg_entry_eq]
  generalize (lg_sl ([.ref h0, .int v9, .int (nI q9)]) ++ List.replicate (9 - (lg_sl ([.ref h0, .int v9, .int (nI q9)])).length) Slot.unset).toArray = ls at hl ⊢
  have hl : lv_has ls 9 [(0, .ref h0), (1, .int v9), (2, .int (nI q9))] := hl
  obtain ⟨hlc, hd, hk, hpn, hbg, hw, hrm, he, hed, hfa, ham, hpd, hpd2, hpt, hbs, hb9, hrt, hdd, hroll, hh1, hh2, hh3, htp, hsa, hk0, he2, he2d, hga, hgb, hgb2, hpi, hdr, hpa1, he20, he21, hk0m, he28, hgbz, halE, hmxE, hlsE⟩ := Inv_f hI
  have hbs9 := hbs
  have hbs : sm _ _ < 4611686018427387904 := Nat.lt_trans hbs9 (by decide)
  have hD9 : ceilA (sm b k) < 200000000000000 := by unfold ceilA; omega
  refine lv_aload_n hx hb dL_loan_0 rfl (lv_at hl 0 rfl) ?_
  refine nk_rd (W.runV (As := []) (rest := []) ⟨hx, hb, hml, hown, hts⟩ (c_X0_debt l D h0 h1 h2 h3 h4 h5 h6 h7 h8 h9 cI cJ d r lc bg w rm k pn fa e1 am dd rt b pd pt tp hk hbs) (cwV 0 hts gL_loan_X0_debt rfl rfl rfl (by decide +kernel) ⟨Nat.le_of_ble_eq_true rfl, Nat.le_of_ble_eq_true rfl⟩) ⟨nk_Pr.blind, va_recv hK hP (ci := 0) (q0 := 0) rfl rfl, fun U hU hW => ⟨rfl, by rw [hU]; exact hP, va_K.moved hW.alike hK⟩⟩ rfl rfl hl.1 rfl (lv_room (Nat.le_of_ble_eq_true rfl)) dL_loan_1 ⟨Nat.le_of_ble_eq_true rfl, Nat.le_of_ble_eq_true rfl⟩) ?_
  refine W.eq (g2 := F0 m 4 ls [.long (lN (ceilA (sm b k)))]) rfl ?_
  refine lv_lstore_n (lv' := [(3, .long (lN (ceilA (sm b k)))), (0, .ref h0), (1, .int v9), (2, .int (nI q9))]) hx hb dL_loan_4 rfl hl (by decide) rfl (fun ls hl => ?_)
  refine lv_aload_n hx hb dL_loan_5 rfl (lv_at hl 1 rfl) ?_
  refine nk_rd (W.runV (As := []) (rest := []) ⟨hx, hb, hml, hown, hts⟩ (c_X0_room l D h0 h1 h2 h3 h4 h5 h6 h7 h8 h9 cI cJ d r lc bg w rm k pn fa e1 am dd rt b pd pt tp) (cwV 0 hts gL_loan_X0_room rfl rfl rfl (by decide +kernel) ⟨Nat.le_of_ble_eq_true rfl, Nat.le_of_ble_eq_true rfl⟩) ⟨nk_Pr.blind, va_recv hK hP (ci := 0) (q0 := 0) rfl rfl, fun U hU hW => ⟨rfl, by rw [hU]; exact hP, va_K.moved hW.alike hK⟩⟩ rfl rfl hl.1 rfl (lv_room (Nat.le_of_ble_eq_true rfl)) dL_loan_6 ⟨Nat.le_of_ble_eq_true rfl, Nat.le_of_ble_eq_true rfl⟩) ?_
  refine W.eq (g2 := F0 m 9 ls [.int (nI rm)]) rfl ?_
  refine lv_istore (lv' := [(5, .int (nI rm)), (3, .long (lN (ceilA (sm b k)))), (0, .ref h0), (1, .int v9), (2, .int (nI q9))]) hx hb dL_loan_9 hl (by decide) rfl (fun ls hl => ?_)
  refine lv_iload_n hx hb dL_loan_11 rfl (lv_at hl 4 rfl) ?_
  refine lv_iconst (v := nI 4) hx hb dL_loan_12 (by decide +kernel) ?_
  refine nk_icmp_ge (tgt := 122) hx hb (by omega) (by omega) dL_loan_13 (by decide) (fun c13 => ?_) (fun c13 => ?_)
  · refine lv_iload_n hx hb dL_loan_122 rfl (lv_at hl 4 rfl) ?_
    refine lv_bipush (v := nI 8) hx hb dL_loan_123 (by decide +kernel) ?_
    refine nk_icmp_ge (tgt := 245) hx hb (by omega) (by omega) dL_loan_125 (by decide) (fun c125 => ?_) (fun c125 => ?_)
    · refine lv_iload_n hx hb dL_loan_245 rfl (lv_at hl 4 rfl) ?_
      refine lv_bipush (v := nI 9) hx hb dL_loan_246 (by decide +kernel) ?_
      refine nk_icmp_ge (tgt := 337) hx hb (by omega) (by omega) dL_loan_248 (by decide) (fun c248 => ?_) (fun c248 => ?_)
      · refine lv_iload_n hx hb dL_loan_337 rfl (lv_at hl 3 rfl) ?_
        refine lv_iload_n hx hb dL_loan_338 rfl (lv_at hl 3 rfl) ?_
        refine lv_bipush (v := nI 17) hx hb dL_loan_339 (by decide +kernel) ?_
        refine lv_ishr hx hb dL_loan_341 ?_
        refine lv_iconst (v := nI 2) hx hb dL_loan_342 (by decide +kernel) ?_
        refine nk_rd (W.runS (As := [.int (v9 >>> (nI 17 &&& 31)), .int (nI 2)]) (rest := [.int v9]) ⟨hx, hb, hml, hown, hts⟩ (c_L_low l (v9 >>> (nI 17 &&& 31)) 2 (by omega) (by omega)) (va_cwS 2 hts gL_loan_L_low rfl rfl rfl (by decide +kernel) ⟨Nat.le_of_ble_eq_true rfl, Nat.le_of_ble_eq_true rfl⟩) ⟨nk_P0.blind, fun U hU hW => ⟨rfl, trivial⟩⟩ rfl rfl hl.1 rfl (lv_room (Nat.le_of_ble_eq_true rfl)) dL_loan_343 ⟨Nat.le_of_ble_eq_true rfl, Nat.le_of_ble_eq_true rfl⟩) ?_
        refine W.eq (g2 := F0 m 346 ls [.int (nI (lwV (v9 >>> (nI 17 &&& 31)) 2)), .int v9]) rfl ?_
        have kj357 : ∀ (n9 : Nat), (0 < n9 ∧ n9 ≤ 10000001) → W p l e (headSpec wsL_loan { frames := 9, cells := 2, slots := 12, locals := 160 }).room s m args below meth c s.heap [] (0) (0) (MQ below (va_Qi (fun r9 w1 => r9 = nI 1 ∧ nk_LW h0 h1 h2 h3 h4 h5 h6 h7 h8 h9 cI cJ lc e1 w1) (fun w1 t => nk_At D (tX cI cJ) A w1 t) A) args s 2 12 A) (F0 m 357 ls [.int (nI n9), .int v9]) := by
          intro n9 hn9
          refine nk_rd (W.runS (As := [.int v9, .int (nI n9)]) (rest := []) ⟨hx, hb, hml, hown, hts⟩ (c_L_low l v9 n9 (by omega) (by omega)) (va_cwS 2 hts gL_loan_L_low rfl rfl rfl (by decide +kernel) ⟨Nat.le_of_ble_eq_true rfl, Nat.le_of_ble_eq_true rfl⟩) ⟨nk_P0.blind, fun U hU hW => ⟨rfl, trivial⟩⟩ rfl rfl hl.1 rfl (lv_room (Nat.le_of_ble_eq_true rfl)) dL_loan_357 ⟨Nat.le_of_ble_eq_true rfl, Nat.le_of_ble_eq_true rfl⟩) ?_
          refine W.eq (g2 := F0 m 360 ls [.int (nI (lwV v9 n9))]) rfl ?_
          have hlw := lwV_lt (x := v9) (n := n9) hn9.1
          obtain ⟨a1, ha1⟩ : ∃ a1 : Nat, a1 = lwV v9 n9 := ⟨_, rfl⟩
          refine nk_topi (y := nI a1) (by rw [ha1]) ?_
          refine lv_istore (lv' := [(6, .int (nI a1)), (5, .int (nI rm)), (3, .long (lN (ceilA (sm b k)))), (0, .ref h0), (1, .int v9), (2, .int (nI q9))]) hx hb dL_loan_360 hl (by decide) rfl (fun ls hl => ?_)
          refine lv_aload_n hx hb dL_loan_362 rfl (lv_at hl 3 rfl) ?_
          refine lv_iload hx hb dL_loan_363 (lv_at hl 0 rfl) ?_
          have hZH := hZ.kept hS.2.1
          have hFc := va_free (wc := wX h0 h1 h2 h3 h4 h5 h6 h7 h8 h9 cI cJ d r lc bg w rm k pn fa e1 am dd rt b pd pt tp) hD hS hA [0, 1, 2, 3, 4, 5, 6, 7, 8, 9] rfl
          refine nk_icallx (wr := []) (mc := 1) (ms := 6) (vx_runV (As := [.int (nI a1)]) (rest := []) ⟨hx, hb, hml, hown, hts⟩ (c_X0_value l hfl D h0 h1 h2 h3 h4 h5 h6 h7 h8 h9 cI cJ d r lc bg w rm k pn fa e1 am dd rt b pd pt tp s.heap.size (nI a1) ((a1 : Nat) : Int) a1 (nI_toInt (by omega)) (fun _ => ⟨rfl, by omega⟩) hlc) (cwV 1 hts gL_loan_X0_value rfl rfl rfl (by decide +kernel) ⟨Nat.le_of_ble_eq_true rfl, Nat.le_of_ble_eq_true rfl⟩) ⟨nk_Px.blind, va_recv hK hP (ci := 0) (q0 := 0) rfl rfl, fun U hU hW => ⟨rfl, by rw [hU], by rw [hU]; exact hP, va_K.moved hW.alike hK, hD.weaken (fun _ _ _ _ => trivial), by rw [hU]; exact nk_Z.go hZH hW (fun q h => hFc q h)⟩⟩ rfl rfl hl.1 rfl (lv_room (Nat.le_of_ble_eq_true rfl)) dL_loan_365 ⟨Nat.le_of_ble_eq_true rfl, Nat.le_of_ble_eq_true rfl⟩) hP hD hS hA [0, 1, 2, 3, 4, 5, 6, 7, 8, 9] [] rfl rfl rfl (by decide) (fun E9 ce q9 H9 locs9 hE hz9 hk9 hP9 hS9 hce hcv hcl => ?_) (fun r365 w1 H locs hw365 hP hD hS hk9 => ?_)
          · exfalso; rcases hE with ⟨-, h9⟩ | ⟨-, -, h9⟩ <;> omega
          rcases hw365 with ⟨x1, x2, rfl, rfl⟩
          · have hP : va_P D vwCl (wX h0 h1 h2 h3 h4 h5 h6 h7 h8 h9 cI cJ d r lc bg a1 rm k pn fa e1 am dd rt b pd pt tp) H := hP
            have hD : va_D A (wX h0 h1 h2 h3 h4 h5 h6 h7 h8 h9 cI cJ d r lc bg a1 rm k pn fa e1 am dd rt b pd pt tp) := hD
            have hI2 := Inv_value (v := a1) hI (by omega)
            obtain ⟨hlc, hd, hk, hpn, hbg, hw, hrm, he, hed, hfa, ham, hpd, hpd2, hpt, hbs, hb9, hrt, hdd, hroll, hh1, hh2, hh3, htp, hsa, hk0, he2, he2d, hga, hgb, hgb2, hpi, hdr, hpa1, he20, he21, hk0m, he28, hgbz, halE, hmxE, hlsE⟩ := Inv_f hI2
            have hbs9 := hbs
            have hbs : sm _ _ < 4611686018427387904 := Nat.lt_trans hbs9 (by decide)
            refine lv_pop hx hb dL_loan_368 rfl ?_
            refine lv_aload_n hx hb dL_loan_369 rfl (lv_at hl 3 rfl) ?_
            refine lv_iload hx hb dL_loan_370 (lv_at hl 0 rfl) ?_
            have hZH := hZ.kept hS.2.1
            have hFc := va_free (wc := wX h0 h1 h2 h3 h4 h5 h6 h7 h8 h9 cI cJ d r lc bg a1 rm k pn fa e1 am dd rt b pd pt tp) hD hS hA [0, 1, 2, 3, 4, 5, 6, 7, 8, 9] rfl
            refine nk_icallx (wr := []) (mc := 1) (ms := 6) (vx_runV (As := [.int (nI a1)]) (rest := []) ⟨hx, hb, hml, hown, hts⟩ (c_X0_value l hfl D h0 h1 h2 h3 h4 h5 h6 h7 h8 h9 cI cJ d r lc bg a1 rm k pn fa e1 am dd rt b pd pt tp H.size (nI a1) ((a1 : Nat) : Int) a1 (nI_toInt (by omega)) (fun _ => ⟨rfl, by omega⟩) hlc) (cwV 1 hts gL_loan_X0_value rfl rfl rfl (by decide +kernel) ⟨Nat.le_of_ble_eq_true rfl, Nat.le_of_ble_eq_true rfl⟩) ⟨nk_Px.blind, va_recv hK hP (ci := 0) (q0 := 0) rfl rfl, fun U hU hW => ⟨rfl, by rw [hU], by rw [hU]; exact hP, va_K.moved hW.alike hK, hD.weaken (fun _ _ _ _ => trivial), by rw [hU]; exact nk_Z.go hZH hW (fun q h => hFc q h)⟩⟩ rfl rfl hl.1 rfl (lv_room (Nat.le_of_ble_eq_true rfl)) dL_loan_372 ⟨Nat.le_of_ble_eq_true rfl, Nat.le_of_ble_eq_true rfl⟩) hP hD hS hA [0, 1, 2, 3, 4, 5, 6, 7, 8, 9] [] rfl rfl rfl (by decide) (fun E9 ce q9 H9 locs9 hE hz9 hk9 hP9 hS9 hce hcv hcl => ?_) (fun r372 w1 H locs hw372 hP hD hS hk9 => ?_)
            · exfalso; rcases hE with ⟨-, h9⟩ | ⟨-, -, h9⟩ <;> omega
            rcases hw372 with ⟨y1, y2, rfl, rfl⟩
            · have hP : va_P D vwCl (wX h0 h1 h2 h3 h4 h5 h6 h7 h8 h9 cI cJ d r lc bg a1 rm k pn fa e1 am dd rt b pd pt tp) H := hP
              have hD : va_D A (wX h0 h1 h2 h3 h4 h5 h6 h7 h8 h9 cI cJ d r lc bg a1 rm k pn fa e1 am dd rt b pd pt tp) := hD
              refine lv_iload hx hb dL_loan_375 (lv_at hl 0 rfl) ?_
              refine nk_icmp_ne (tgt := 411) hx hb (by omega) (by omega) dL_loan_377 (by decide) (fun c377 => ?_) (fun c377 => ?_)
              · exfalso; omega
              · refine lv_aload_n hx hb dL_loan_380 rfl (lv_at hl 3 rfl) ?_
                refine nk_rd (W.runV (As := []) (rest := []) ⟨hx, hb, hml, hown, hts⟩ (c_X0_worth l D h0 h1 h2 h3 h4 h5 h6 h7 h8 h9 cI cJ d r lc bg a1 rm k pn fa e1 am dd rt b pd pt tp) (cwV 0 hts gL_loan_X0_worth rfl rfl rfl (by decide +kernel) ⟨Nat.le_of_ble_eq_true rfl, Nat.le_of_ble_eq_true rfl⟩) ⟨nk_Pr.blind, va_recv hK hP (ci := 0) (q0 := 0) rfl rfl, fun U hU hW => ⟨rfl, by rw [hU]; exact hP, va_K.moved hW.alike hK⟩⟩ rfl rfl hl.1 rfl (lv_room (Nat.le_of_ble_eq_true rfl)) dL_loan_381 ⟨Nat.le_of_ble_eq_true rfl, Nat.le_of_ble_eq_true rfl⟩) ?_
                refine W.eq (g2 := F0 m 384 ls [.int (nI a1)]) rfl ?_
                refine lv_iload hx hb dL_loan_384 (lv_at hl 0 rfl) ?_
                refine nk_icmp_ne (tgt := 411) hx hb (by omega) (by omega) dL_loan_386 (by decide) (fun c386 => ?_) (fun c386 => ?_)
                · exfalso; omega
                · refine lv_aload_n hx hb dL_loan_389 rfl (lv_at hl 3 rfl) ?_
                  refine nk_rd (W.runV (As := []) (rest := []) ⟨hx, hb, hml, hown, hts⟩ (c_X0_debt l D h0 h1 h2 h3 h4 h5 h6 h7 h8 h9 cI cJ d r lc bg a1 rm k pn fa e1 am dd rt b pd pt tp hk hbs) (cwV 0 hts gL_loan_X0_debt rfl rfl rfl (by decide +kernel) ⟨Nat.le_of_ble_eq_true rfl, Nat.le_of_ble_eq_true rfl⟩) ⟨nk_Pr.blind, va_recv hK hP (ci := 0) (q0 := 0) rfl rfl, fun U hU hW => ⟨rfl, by rw [hU]; exact hP, va_K.moved hW.alike hK⟩⟩ rfl rfl hl.1 rfl (lv_room (Nat.le_of_ble_eq_true rfl)) dL_loan_390 ⟨Nat.le_of_ble_eq_true rfl, Nat.le_of_ble_eq_true rfl⟩) ?_
                  refine W.eq (g2 := F0 m 393 ls [.long (lN (ceilA (sm b k)))]) rfl ?_
                  refine lv_lload_n hx hb dL_loan_393 rfl (lv_at hl 2 rfl) ?_
                  refine nk_lcmp_ne (tgt := 411) hx hb (by omega) (by omega) dL_loan_394 dL_loan_395 (by decide) (fun c394 => ?_) (fun c394 => ?_)
                  · exfalso; omega
                  · refine lv_aload_n hx hb dL_loan_398 rfl (lv_at hl 3 rfl) ?_
                    refine nk_rd (W.runV (As := []) (rest := []) ⟨hx, hb, hml, hown, hts⟩ (c_X0_room l D h0 h1 h2 h3 h4 h5 h6 h7 h8 h9 cI cJ d r lc bg a1 rm k pn fa e1 am dd rt b pd pt tp) (cwV 0 hts gL_loan_X0_room rfl rfl rfl (by decide +kernel) ⟨Nat.le_of_ble_eq_true rfl, Nat.le_of_ble_eq_true rfl⟩) ⟨nk_Pr.blind, va_recv hK hP (ci := 0) (q0 := 0) rfl rfl, fun U hU hW => ⟨rfl, by rw [hU]; exact hP, va_K.moved hW.alike hK⟩⟩ rfl rfl hl.1 rfl (lv_room (Nat.le_of_ble_eq_true rfl)) dL_loan_399 ⟨Nat.le_of_ble_eq_true rfl, Nat.le_of_ble_eq_true rfl⟩) ?_
                    refine W.eq (g2 := F0 m 402 ls [.int (nI rm)]) rfl ?_
                    refine lv_iload hx hb dL_loan_402 (lv_at hl 1 rfl) ?_
                    refine nk_icmp_ne (tgt := 411) hx hb (by omega) (by omega) dL_loan_404 (by decide) (fun c404 => ?_) (fun c404 => ?_)
                    · exfalso; omega
                    · refine lv_iconst (v := nI 1) hx hb dL_loan_407 (by decide +kernel) ?_
                      refine lv_goto (tgt := 412) hx hb dL_loan_408 (by decide) ?_
                      refine W.widen (k := 2) (n := 12) (by decide) (by decide) ?_
                      exact W.zret (ty := .boolean) (v := nI 1) hx hb hr rfl (fun t ht hW => ⟨⟨nI 1, wX h0 h1 h2 h3 h4 h5 h6 h7 h8 h9 cI cJ d r lc bg a1 rm k pn fa e1 am dd rt b pd pt tp, rfl, ⟨rfl, _, _, _, _, _, _, _, _, _, _, _, _, _, _, _, _, _, _, _, _, _, hI2, rfl⟩, by rw [ht]; exact hP, va_K.moved hW.alike hK, hD⟩, hS.F ht⟩) hS.2.2 dL_loan_412
        refine nk_if_ne (tgt := 354) hx hb (lwV_i (by decide) (by decide)) dL_loan_346 (by decide) (fun c346 => ?_) (fun c346 => ?_)
        · refine lv_sipush (v := nI 20000) hx hb dL_loan_354 (by decide +kernel) ?_
          exact kj357 20000 (by decide)
        · refine lv_ldc (v := nI 10000001) hx hb hown k86 dL_loan_349 ?_
          refine lv_goto (tgt := 357) hx hb dL_loan_351 (by decide) ?_
          exact kj357 10000001 (by decide)
      · refine lv_aload_n hx hb dL_loan_251 rfl (lv_at hl 2 rfl) ?_
        refine lv_iload_n hx hb dL_loan_252 rfl (lv_at hl 3 rfl) ?_
        refine lv_ldc (v := nI 10000001) hx hb hown k86 dL_loan_253 ?_
        refine nk_rd (W.runS (As := [.int v9, .int (nI 10000001)]) (rest := [.ref h0]) ⟨hx, hb, hml, hown, hts⟩ (c_L_low l v9 10000001 (by omega) (by omega)) (va_cwS 2 hts gL_loan_L_low rfl rfl rfl (by decide +kernel) ⟨Nat.le_of_ble_eq_true rfl, Nat.le_of_ble_eq_true rfl⟩) ⟨nk_P0.blind, fun U hU hW => ⟨rfl, trivial⟩⟩ rfl rfl hl.1 rfl (lv_room (Nat.le_of_ble_eq_true rfl)) dL_loan_255 ⟨Nat.le_of_ble_eq_true rfl, Nat.le_of_ble_eq_true rfl⟩) ?_
        refine W.eq (g2 := F0 m 258 ls [.int (nI (lwV v9 10000001)), .ref h0]) rfl ?_
        obtain ⟨a1, ha1⟩ : ∃ a1 : Nat, a1 = lwV v9 10000001 := ⟨_, rfl⟩
        have hlw := lwV_lt (x := v9) (n := 10000001) (by decide)
        refine nk_topi (y := nI a1) (by rw [ha1]) ?_
        have hZH := hZ.kept hS.2.1
        have hFc := va_free (wc := wX h0 h1 h2 h3 h4 h5 h6 h7 h8 h9 cI cJ d r lc bg w rm k pn fa e1 am dd rt b pd pt tp) hD hS hA [0, 1, 2, 3, 4, 5, 6, 7, 8, 9] rfl
        refine nk_lcall (wr := []) (mc := 1) (ms := 6) (vx_runSW (As := [.ref h0, .int (nI a1)]) (rest := []) ⟨hx, hb, hml, hown, hts⟩ (c_L_move l hfl D h0 h1 h2 h3 h4 h5 h6 h7 h8 h9 cI cJ d r lc bg w rm k pn fa e1 am dd rt b pd pt tp s.heap.size (nI a1) ((a1 : Nat) : Int) a1 (nI_toInt (by omega)) (fun _ => ⟨rfl, by omega⟩) hlc he hfa hd hk hpn hbs9 hb9 (by omega)) (vx_cwSW 2 hts gL_loan_L_move rfl rfl rfl (by decide +kernel) ⟨Nat.le_of_ble_eq_true rfl, Nat.le_of_ble_eq_true rfl⟩) ⟨nk_Px.blind, fun U hU hW => ⟨rfl, by rw [hU], by rw [hU]; exact hP, va_K.moved hW.alike hK, hD.weaken (fun _ _ _ _ => trivial), by rw [hU]; exact nk_Z.go hZH hW (fun q h => hFc q h)⟩⟩ rfl rfl hl.1 rfl (lv_room (Nat.le_of_ble_eq_true rfl)) dL_loan_258 ⟨Nat.le_of_ble_eq_true rfl, Nat.le_of_ble_eq_true rfl⟩) hP hD hS hA [0, 1, 2, 3, 4, 5, 6, 7, 8, 9] [] rfl rfl rfl (by decide) (fun r258 w1 H locs hw258 hP hD hS hk9 => ?_)
        rcases hw258 with ⟨x1, x2, x3, rfl, (⟨x4, rfl⟩ | ⟨x4, rfl⟩)⟩ | ⟨rfl, x1, rfl⟩
        · have hP : va_P D vwCl (wX h0 h1 h2 h3 h4 h5 h6 h7 h8 h9 cI cJ d r lc bg a1 (gL a1 (lstA fa e1 lc - 1 + d / 365) - ceilA (sm b k)) k pn fa e1 am dd rt b pd pt tp) H := hP
          have hD : va_D A (wX h0 h1 h2 h3 h4 h5 h6 h7 h8 h9 cI cJ d r lc bg a1 (gL a1 (lstA fa e1 lc - 1 + d / 365) - ceilA (sm b k)) k pn fa e1 am dd rt b pd pt tp) := hD
          have hg9 : gL a1 (lstA fa e1 lc - 1 + d / 365) ≤ 5500000 := gL_le (by omega)
          have hI2 := Inv_room (v := a1) (x := gL a1 (lstA fa e1 lc - 1 + d / 365) - ceilA (sm b k)) hI (by omega) (by omega)
          obtain ⟨hlc, hd, hk, hpn, hbg, hw, hrm, he, hed, hfa, ham, hpd, hpd2, hpt, hbs, hb9, hrt, hdd, hroll, hh1, hh2, hh3, htp, hsa, hk0, he2, he2d, hga, hgb, hgb2, hpi, hdr, hpa1, he20, he21, hk0m, he28, hgbz, halE, hmxE, hlsE⟩ := Inv_f hI2
          have hbs9 := hbs
          have hbs : sm _ _ < 4611686018427387904 := Nat.lt_trans hbs9 (by decide)
          refine lv_lstore (lv' := [(6, .long (lN (ceilA (sm b k) - gL a1 (lstA fa e1 lc - 1 + d / 365)))), (5, .int (nI rm)), (3, .long (lN (ceilA (sm b k)))), (0, .ref h0), (1, .int v9), (2, .int (nI q9))]) hx hb dL_loan_261 hl (by decide) rfl (fun ls hl => ?_)
          refine lv_lload hx hb dL_loan_263 (lv_at hl 0 rfl) ?_
          refine lv_ldc2 (v := -3) hx hb hown (hts (.constantLong RL 28 (-3)) (by decide +kernel)) dL_loan_265 ?_
          refine nk_lcmpR_ne (tgt := 298) hx hb dL_loan_268 dL_loan_269 (by decide) (fun c268 => ?_) (fun c268 => ?_)
          · refine lv_lload hx hb dL_loan_298 (lv_at hl 0 rfl) ?_
            refine lv_lconst (v := lN 0) hx hb dL_loan_300 (by decide +kernel) ?_
            refine nk_lcmp_lt (tgt := 335) hx hb (by omega) (by omega) dL_loan_301 dL_loan_302 (by decide) (fun c301 => ?_) (fun c301 => ?_)
            · exfalso; omega
            · refine lv_aload_n hx hb dL_loan_305 rfl (lv_at hl 3 rfl) ?_
              refine nk_rd (W.runV (As := []) (rest := []) ⟨hx, hb, hml, hown, hts⟩ (c_X0_debt l D h0 h1 h2 h3 h4 h5 h6 h7 h8 h9 cI cJ d r lc bg a1 (gL a1 (lstA fa e1 lc - 1 + d / 365) - ceilA (sm b k)) k pn fa e1 am dd rt b pd pt tp hk hbs) (cwV 0 hts gL_loan_X0_debt rfl rfl rfl (by decide +kernel) ⟨Nat.le_of_ble_eq_true rfl, Nat.le_of_ble_eq_true rfl⟩) ⟨nk_Pr.blind, va_recv hK hP (ci := 0) (q0 := 0) rfl rfl, fun U hU hW => ⟨rfl, by rw [hU]; exact hP, va_K.moved hW.alike hK⟩⟩ rfl rfl hl.1 rfl (lv_room (Nat.le_of_ble_eq_true rfl)) dL_loan_306 ⟨Nat.le_of_ble_eq_true rfl, Nat.le_of_ble_eq_true rfl⟩) ?_
              refine W.eq (g2 := F0 m 309 ls [.long (lN (ceilA (sm b k)))]) rfl ?_
              refine lv_lload_n hx hb dL_loan_309 rfl (lv_at hl 2 rfl) ?_
              refine lv_lload hx hb dL_loan_310 (lv_at hl 0 rfl) ?_
              refine nk_lsub hx hb (Nat.sub_le _ _) dL_loan_312 ?_
              refine nk_lcmp_ne (tgt := 335) hx hb (by omega) (by omega) dL_loan_313 dL_loan_314 (by decide) (fun c313 => ?_) (fun c313 => ?_)
              · exfalso; omega
              · refine lv_lload hx hb dL_loan_317 (lv_at hl 0 rfl) ?_
                refine lv_lconst (v := lN 0) hx hb dL_loan_319 (by decide +kernel) ?_
                refine nk_lcmp_eq (tgt := 331) hx hb (by omega) (by omega) dL_loan_320 dL_loan_321 (by decide) (fun c320 => ?_) (fun c320 => ?_)
                · refine lv_iconst (v := nI 1) hx hb dL_loan_331 (by decide +kernel) ?_
                  refine lv_goto (tgt := 336) hx hb dL_loan_332 (by decide) ?_
                  refine W.widen (k := 2) (n := 12) (by decide) (by decide) ?_
                  exact W.zret (ty := .boolean) (v := nI 1) hx hb hr rfl (fun t ht hW => ⟨⟨nI 1, wX h0 h1 h2 h3 h4 h5 h6 h7 h8 h9 cI cJ d r lc bg a1 (gL a1 (lstA fa e1 lc - 1 + d / 365) - ceilA (sm b k)) k pn fa e1 am dd rt b pd pt tp, rfl, ⟨rfl, _, _, _, _, _, _, _, _, _, _, _, _, _, _, _, _, _, _, _, _, _, hI2, rfl⟩, by rw [ht]; exact hP, va_K.moved hW.alike hK, hD⟩, hS.F ht⟩) hS.2.2 dL_loan_336
                · exfalso; omega
          · exact absurd c268 (nk_n3l (by omega))
        · have hr0 := nk_room0 x4
          rw [hr0] at hP hD
          have hP : va_P D vwCl (wX h0 h1 h2 h3 h4 h5 h6 h7 h8 h9 cI cJ d r lc bg a1 0 k (pn + 1) fa e1 am dd rt (tkB b ((ceilA (sm b k) - gL a1 (lstA fa e1 lc - 1 + d / 365)) * 10000) k) (va_up pd pn d) (va_up pt pn 0) (tkT tp b ((ceilA (sm b k) - gL a1 (lstA fa e1 lc - 1 + d / 365)) * 10000) pn k)) H := hP
          have hD : va_D A (wX h0 h1 h2 h3 h4 h5 h6 h7 h8 h9 cI cJ d r lc bg a1 0 k (pn + 1) fa e1 am dd rt (tkB b ((ceilA (sm b k) - gL a1 (lstA fa e1 lc - 1 + d / 365)) * 10000) k) (va_up pd pn d) (va_up pt pn 0) (tkT tp b ((ceilA (sm b k) - gL a1 (lstA fa e1 lc - 1 + d / 365)) * 10000) pn k)) := hD
          have hdE := tk_debt (b := b) (k := k) (a := ceilA (sm b k) - gL a1 (lstA fa e1 lc - 1 + d / 365)) (Nat.sub_le _ _)
          have hI2 := Inv_take (A := (ceilA (sm b k) - gL a1 (lstA fa e1 lc - 1 + d / 365)) * 10000) (t9 := 0) (w' := a1) (rm' := 0) hI x2.1 x2.2 x3 (Nat.zero_le _) (by omega) (Nat.zero_le _) (InvY_move hI.2.2.2.2.2.2.2.2)
          obtain ⟨hlc, hd, hk, hpn, hbg, hw, hrm, he, hed, hfa, ham, hpd, hpd2, hpt, hbs, hb9, hrt, hdd, hroll, hh1, hh2, hh3, htp, hsa, hk0, he2, he2d, hga, hgb, hgb2, hpi, hdr, hpa1, he20, he21, hk0m, he28, hgbz, halE, hmxE, hlsE⟩ := Inv_f hI2
          have hbs9 := hbs
          have hbs : sm _ _ < 4611686018427387904 := Nat.lt_trans hbs9 (by decide)
          refine lv_lstore (lv' := [(6, .long (lN (ceilA (sm b k) - gL a1 (lstA fa e1 lc - 1 + d / 365)))), (5, .int (nI rm)), (3, .long (lN (ceilA (sm b k)))), (0, .ref h0), (1, .int v9), (2, .int (nI q9))]) hx hb dL_loan_261 hl (by decide) rfl (fun ls hl => ?_)
          refine lv_lload hx hb dL_loan_263 (lv_at hl 0 rfl) ?_
          refine lv_ldc2 (v := -3) hx hb hown (hts (.constantLong RL 28 (-3)) (by decide +kernel)) dL_loan_265 ?_
          refine nk_lcmpR_ne (tgt := 298) hx hb dL_loan_268 dL_loan_269 (by decide) (fun c268 => ?_) (fun c268 => ?_)
          · refine lv_lload hx hb dL_loan_298 (lv_at hl 0 rfl) ?_
            refine lv_lconst (v := lN 0) hx hb dL_loan_300 (by decide +kernel) ?_
            refine nk_lcmp_lt (tgt := 335) hx hb (by omega) (by omega) dL_loan_301 dL_loan_302 (by decide) (fun c301 => ?_) (fun c301 => ?_)
            · exfalso; omega
            · refine lv_aload_n hx hb dL_loan_305 rfl (lv_at hl 3 rfl) ?_
              refine nk_rd (W.runV (As := []) (rest := []) ⟨hx, hb, hml, hown, hts⟩ (c_X0_debt l D h0 h1 h2 h3 h4 h5 h6 h7 h8 h9 cI cJ d r lc bg a1 0 k (pn + 1) fa e1 am dd rt (tkB b ((ceilA (sm b k) - gL a1 (lstA fa e1 lc - 1 + d / 365)) * 10000) k) (va_up pd pn d) (va_up pt pn 0) (tkT tp b ((ceilA (sm b k) - gL a1 (lstA fa e1 lc - 1 + d / 365)) * 10000) pn k) hk hbs) (cwV 0 hts gL_loan_X0_debt rfl rfl rfl (by decide +kernel) ⟨Nat.le_of_ble_eq_true rfl, Nat.le_of_ble_eq_true rfl⟩) ⟨nk_Pr.blind, va_recv hK hP (ci := 0) (q0 := 0) rfl rfl, fun U hU hW => ⟨rfl, by rw [hU]; exact hP, va_K.moved hW.alike hK⟩⟩ rfl rfl hl.1 rfl (lv_room (Nat.le_of_ble_eq_true rfl)) dL_loan_306 ⟨Nat.le_of_ble_eq_true rfl, Nat.le_of_ble_eq_true rfl⟩) ?_
              refine W.eq (g2 := F0 m 309 ls [.long (lN (ceilA (sm (tkB b ((ceilA (sm b k) - gL a1 (lstA fa e1 lc - 1 + d / 365)) * 10000) k) k)))]) rfl ?_
              refine lv_lload_n hx hb dL_loan_309 rfl (lv_at hl 2 rfl) ?_
              refine lv_lload hx hb dL_loan_310 (lv_at hl 0 rfl) ?_
              refine nk_lsub hx hb (Nat.sub_le _ _) dL_loan_312 ?_
              refine nk_lcmp_ne (tgt := 335) hx hb (by omega) (by omega) dL_loan_313 dL_loan_314 (by decide) (fun c313 => ?_) (fun c313 => ?_)
              · exfalso; omega
              · refine lv_lload hx hb dL_loan_317 (lv_at hl 0 rfl) ?_
                refine lv_lconst (v := lN 0) hx hb dL_loan_319 (by decide +kernel) ?_
                refine nk_lcmp_eq (tgt := 331) hx hb (by omega) (by omega) dL_loan_320 dL_loan_321 (by decide) (fun c320 => ?_) (fun c320 => ?_)
                · exfalso; omega
                · refine lv_aload_n hx hb dL_loan_324 rfl (lv_at hl 3 rfl) ?_
                  refine nk_rd (W.runV (As := []) (rest := []) ⟨hx, hb, hml, hown, hts⟩ (c_X0_room l D h0 h1 h2 h3 h4 h5 h6 h7 h8 h9 cI cJ d r lc bg a1 0 k (pn + 1) fa e1 am dd rt (tkB b ((ceilA (sm b k) - gL a1 (lstA fa e1 lc - 1 + d / 365)) * 10000) k) (va_up pd pn d) (va_up pt pn 0) (tkT tp b ((ceilA (sm b k) - gL a1 (lstA fa e1 lc - 1 + d / 365)) * 10000) pn k)) (cwV 0 hts gL_loan_X0_room rfl rfl rfl (by decide +kernel) ⟨Nat.le_of_ble_eq_true rfl, Nat.le_of_ble_eq_true rfl⟩) ⟨nk_Pr.blind, va_recv hK hP (ci := 0) (q0 := 0) rfl rfl, fun U hU hW => ⟨rfl, by rw [hU]; exact hP, va_K.moved hW.alike hK⟩⟩ rfl rfl hl.1 rfl (lv_room (Nat.le_of_ble_eq_true rfl)) dL_loan_325 ⟨Nat.le_of_ble_eq_true rfl, Nat.le_of_ble_eq_true rfl⟩) ?_
                  refine W.eq (g2 := F0 m 328 ls [.int (nI 0)]) rfl ?_
                  refine nk_if_ne (tgt := 335) hx hb (by omega) dL_loan_328 (by decide) (fun c328 => ?_) (fun c328 => ?_)
                  · exfalso; omega
                  · refine lv_iconst (v := nI 1) hx hb dL_loan_331 (by decide +kernel) ?_
                    refine lv_goto (tgt := 336) hx hb dL_loan_332 (by decide) ?_
                    refine W.widen (k := 2) (n := 12) (by decide) (by decide) ?_
                    exact W.zret (ty := .boolean) (v := nI 1) hx hb hr rfl (fun t ht hW => ⟨⟨nI 1, wX h0 h1 h2 h3 h4 h5 h6 h7 h8 h9 cI cJ d r lc bg a1 0 k (pn + 1) fa e1 am dd rt (tkB b ((ceilA (sm b k) - gL a1 (lstA fa e1 lc - 1 + d / 365)) * 10000) k) (va_up pd pn d) (va_up pt pn 0) (tkT tp b ((ceilA (sm b k) - gL a1 (lstA fa e1 lc - 1 + d / 365)) * 10000) pn k), rfl, ⟨rfl, _, _, _, _, _, _, _, _, _, _, _, _, _, _, _, _, _, _, _, _, _, hI2, rfl⟩, by rw [ht]; exact hP, va_K.moved hW.alike hK, hD⟩, hS.F ht⟩) hS.2.2 dL_loan_336
          · exact absurd c268 (nk_n3l (by omega))
        · have hP : va_P D vwCl (wX h0 h1 h2 h3 h4 h5 h6 h7 h8 h9 cI cJ d r lc bg w rm k pn fa e1 am dd rt b pd pt tp) H := hP
          have hD : va_D A (wX h0 h1 h2 h3 h4 h5 h6 h7 h8 h9 cI cJ d r lc bg w rm k pn fa e1 am dd rt b pd pt tp) := hD
          refine lv_lstore (lv' := [(6, .long (-3)), (5, .int (nI rm)), (3, .long (lN (ceilA (sm b k)))), (0, .ref h0), (1, .int v9), (2, .int (nI q9))]) hx hb dL_loan_261 hl (by decide) rfl (fun ls hl => ?_)
          refine lv_lload hx hb dL_loan_263 (lv_at hl 0 rfl) ?_
          refine lv_ldc2 (v := -3) hx hb hown (hts (.constantLong RL 28 (-3)) (by decide +kernel)) dL_loan_265 ?_
          refine nk_lcmpR_ne (tgt := 298) hx hb dL_loan_268 dL_loan_269 (by decide) (fun c268 => ?_) (fun c268 => ?_)
          · exact absurd rfl c268
          · refine lv_aload_n hx hb dL_loan_272 rfl (lv_at hl 3 rfl) ?_
            refine nk_rd (W.runV (As := []) (rest := []) ⟨hx, hb, hml, hown, hts⟩ (c_X0_debt l D h0 h1 h2 h3 h4 h5 h6 h7 h8 h9 cI cJ d r lc bg w rm k pn fa e1 am dd rt b pd pt tp hk hbs) (cwV 0 hts gL_loan_X0_debt rfl rfl rfl (by decide +kernel) ⟨Nat.le_of_ble_eq_true rfl, Nat.le_of_ble_eq_true rfl⟩) ⟨nk_Pr.blind, va_recv hK hP (ci := 0) (q0 := 0) rfl rfl, fun U hU hW => ⟨rfl, by rw [hU]; exact hP, va_K.moved hW.alike hK⟩⟩ rfl rfl hl.1 rfl (lv_room (Nat.le_of_ble_eq_true rfl)) dL_loan_273 ⟨Nat.le_of_ble_eq_true rfl, Nat.le_of_ble_eq_true rfl⟩) ?_
            refine W.eq (g2 := F0 m 276 ls [.long (lN (ceilA (sm b k)))]) rfl ?_
            refine lv_lload_n hx hb dL_loan_276 rfl (lv_at hl 2 rfl) ?_
            refine nk_lcmp_ne (tgt := 294) hx hb (by omega) (by omega) dL_loan_277 dL_loan_278 (by decide) (fun c277 => ?_) (fun c277 => ?_)
            · exfalso; omega
            · refine lv_aload_n hx hb dL_loan_281 rfl (lv_at hl 3 rfl) ?_
              refine nk_rd (W.runV (As := []) (rest := []) ⟨hx, hb, hml, hown, hts⟩ (c_X0_room l D h0 h1 h2 h3 h4 h5 h6 h7 h8 h9 cI cJ d r lc bg w rm k pn fa e1 am dd rt b pd pt tp) (cwV 0 hts gL_loan_X0_room rfl rfl rfl (by decide +kernel) ⟨Nat.le_of_ble_eq_true rfl, Nat.le_of_ble_eq_true rfl⟩) ⟨nk_Pr.blind, va_recv hK hP (ci := 0) (q0 := 0) rfl rfl, fun U hU hW => ⟨rfl, by rw [hU]; exact hP, va_K.moved hW.alike hK⟩⟩ rfl rfl hl.1 rfl (lv_room (Nat.le_of_ble_eq_true rfl)) dL_loan_282 ⟨Nat.le_of_ble_eq_true rfl, Nat.le_of_ble_eq_true rfl⟩) ?_
              refine W.eq (g2 := F0 m 285 ls [.int (nI rm)]) rfl ?_
              refine lv_iload hx hb dL_loan_285 (lv_at hl 1 rfl) ?_
              refine nk_icmp_ne (tgt := 294) hx hb (by omega) (by omega) dL_loan_287 (by decide) (fun c287 => ?_) (fun c287 => ?_)
              · exfalso; omega
              · refine lv_iconst (v := nI 1) hx hb dL_loan_290 (by decide +kernel) ?_
                refine lv_goto (tgt := 336) hx hb dL_loan_291 (by decide) ?_
                refine W.widen (k := 2) (n := 12) (by decide) (by decide) ?_
                exact W.zret (ty := .boolean) (v := nI 1) hx hb hr rfl (fun t ht hW => ⟨⟨nI 1, wX h0 h1 h2 h3 h4 h5 h6 h7 h8 h9 cI cJ d r lc bg w rm k pn fa e1 am dd rt b pd pt tp, rfl, ⟨rfl, _, _, _, _, _, _, _, _, _, _, _, _, _, _, _, _, _, _, _, _, _, hI, rfl⟩, by rw [ht]; exact hP, va_K.moved hW.alike hK, hD⟩, hS.F ht⟩) hS.2.2 dL_loan_336
    · refine lv_iconst (v := nI 1) hx hb dL_loan_128 (by decide +kernel) ?_
      refine lv_iload_n hx hb dL_loan_129 rfl (lv_at hl 3 rfl) ?_
      refine lv_iload_n hx hb dL_loan_130 rfl (lv_at hl 3 rfl) ?_
      refine lv_bipush (v := nI 17) hx hb dL_loan_131 (by decide +kernel) ?_
      refine lv_ishr hx hb dL_loan_133 ?_
      refine lv_iconst (v := nI 2) hx hb dL_loan_134 (by decide +kernel) ?_
      refine nk_rd (W.runS (As := [.int (v9 >>> (nI 17 &&& 31)), .int (nI 2)]) (rest := [.int v9, .int (nI 1)]) ⟨hx, hb, hml, hown, hts⟩ (c_L_low l (v9 >>> (nI 17 &&& 31)) 2 (by omega) (by omega)) (va_cwS 2 hts gL_loan_L_low rfl rfl rfl (by decide +kernel) ⟨Nat.le_of_ble_eq_true rfl, Nat.le_of_ble_eq_true rfl⟩) ⟨nk_P0.blind, fun U hU hW => ⟨rfl, trivial⟩⟩ rfl rfl hl.1 rfl (lv_room (Nat.le_of_ble_eq_true rfl)) dL_loan_135 ⟨Nat.le_of_ble_eq_true rfl, Nat.le_of_ble_eq_true rfl⟩) ?_
      refine W.eq (g2 := F0 m 138 ls [.int (nI (lwV (v9 >>> (nI 17 &&& 31)) 2)), .int v9, .int (nI 1)]) rfl ?_
      have kj149 : ∀ (n9 : Nat), (0 < n9 ∧ n9 ≤ 10000000) → W p l e (headSpec wsL_loan { frames := 9, cells := 2, slots := 12, locals := 160 }).room s m args below meth c s.heap [] (0) (0) (MQ below (va_Qi (fun r9 w1 => r9 = nI 1 ∧ nk_LW h0 h1 h2 h3 h4 h5 h6 h7 h8 h9 cI cJ lc e1 w1) (fun w1 t => nk_At D (tX cI cJ) A w1 t) A) args s 2 12 A) (F0 m 149 ls [.int (nI n9), .int v9, .int (nI 1)]) := by
        intro n9 hn9
        refine nk_rd (W.runS (As := [.int v9, .int (nI n9)]) (rest := [.int (nI 1)]) ⟨hx, hb, hml, hown, hts⟩ (c_L_low l v9 n9 (by omega) (by omega)) (va_cwS 2 hts gL_loan_L_low rfl rfl rfl (by decide +kernel) ⟨Nat.le_of_ble_eq_true rfl, Nat.le_of_ble_eq_true rfl⟩) ⟨nk_P0.blind, fun U hU hW => ⟨rfl, trivial⟩⟩ rfl rfl hl.1 rfl (lv_room (Nat.le_of_ble_eq_true rfl)) dL_loan_149 ⟨Nat.le_of_ble_eq_true rfl, Nat.le_of_ble_eq_true rfl⟩) ?_
        refine W.eq (g2 := F0 m 152 ls [.int (nI (lwV v9 n9)), .int (nI 1)]) rfl ?_
        refine nk_iadd hx hb dL_loan_152 ?_
        have hlw := lwV_lt (x := v9) (n := n9) hn9.1
        obtain ⟨a1, ha1⟩ : ∃ a1 : Nat, a1 = 1 + (lwV v9 n9) := ⟨_, rfl⟩
        refine nk_topi (y := nI a1) (by rw [ha1]) ?_
        refine lv_istore (lv' := [(6, .int (nI a1)), (5, .int (nI rm)), (3, .long (lN (ceilA (sm b k)))), (0, .ref h0), (1, .int v9), (2, .int (nI q9))]) hx hb dL_loan_153 hl (by decide) rfl (fun ls hl => ?_)
        refine lv_aload_n hx hb dL_loan_155 rfl (lv_at hl 3 rfl) ?_
        refine lv_iload hx hb dL_loan_156 (lv_at hl 0 rfl) ?_
        have hZH := hZ.kept hS.2.1
        have hFc := va_free (wc := wX h0 h1 h2 h3 h4 h5 h6 h7 h8 h9 cI cJ d r lc bg w rm k pn fa e1 am dd rt b pd pt tp) hD hS hA [0, 1, 2, 3, 4, 5, 6, 7, 8, 9] rfl
        refine nk_icall (wr := []) (mc := 1) (ms := 6) (vx_runSW (As := [.ref h0, .int (nI a1)]) (rest := []) ⟨hx, hb, hml, hown, hts⟩ (c_L_charge l hfl D h0 h1 h2 h3 h4 h5 h6 h7 h8 h9 cI cJ d r lc bg w rm k pn fa e1 am dd rt b pd pt tp s.heap.size (nI a1) ((a1 : Nat) : Int) a1 (nI_toInt (by omega)) (fun _ => ⟨rfl, by omega⟩) hlc he hed hk ham hpn hbg hd hpd hpt (by omega)) (vx_cwSW 2 hts gL_loan_L_charge rfl rfl rfl (by decide +kernel) ⟨Nat.le_of_ble_eq_true rfl, Nat.le_of_ble_eq_true rfl⟩) ⟨nk_Px.blind, fun U hU hW => ⟨rfl, by rw [hU], by rw [hU]; exact hP, va_K.moved hW.alike hK, hD.weaken (fun _ _ _ _ => trivial), by rw [hU]; exact nk_Z.go hZH hW (fun q h => hFc q h)⟩⟩ rfl rfl hl.1 rfl (lv_room (Nat.le_of_ble_eq_true rfl)) dL_loan_158 ⟨Nat.le_of_ble_eq_true rfl, Nat.le_of_ble_eq_true rfl⟩) hP hD hS hA [0, 1, 2, 3, 4, 5, 6, 7, 8, 9] [] rfl rfl rfl (by decide) (fun r158 w1 H locs hw158 hP hD hS hk9 => ?_)
        rcases hw158 with ⟨⟨x1, x2⟩, rfl, rfl⟩ | ⟨rfl, x1, rfl⟩
        · have hP : va_P D vwCl (wX h0 h1 h2 h3 h4 h5 h6 h7 h8 h9 cI cJ d r lc bg w rm k pn fa e1 am dd rt b pd pt tp) H := hP
          have hD : va_D A (wX h0 h1 h2 h3 h4 h5 h6 h7 h8 h9 cI cJ d r lc bg w rm k pn fa e1 am dd rt b pd pt tp) := hD
          refine lv_istore (lv' := [(7, .int (nI (chg (mxE e1 lc) d ((d - bg) / 365) (sm am k) (pY bg pd pt ((d - bg) / 365) pn) a1))), (6, .int (nI a1)), (5, .int (nI rm)), (3, .long (lN (ceilA (sm b k)))), (0, .ref h0), (1, .int v9), (2, .int (nI q9))]) hx hb dL_loan_161 hl (by decide) rfl (fun ls hl => ?_)
          refine lv_aload_n hx hb dL_loan_163 rfl (lv_at hl 4 rfl) ?_
          refine lv_iload hx hb dL_loan_164 (lv_at hl 1 rfl) ?_
          have hZH := hZ.kept hS.2.1
          have hFc := va_free (wc := wX h0 h1 h2 h3 h4 h5 h6 h7 h8 h9 cI cJ d r lc bg w rm k pn fa e1 am dd rt b pd pt tp) hD hS hA [0, 1, 2, 3, 4, 5, 6, 7, 8, 9] rfl
          refine nk_icall (wr := []) (mc := 1) (ms := 6) (vx_runSW (As := [.ref h0, .int (nI a1)]) (rest := []) ⟨hx, hb, hml, hown, hts⟩ (c_L_pay l hfl D h0 h1 h2 h3 h4 h5 h6 h7 h8 h9 cI cJ d r lc bg w rm k pn fa e1 am dd rt b pd pt tp H.size (nI a1) ((a1 : Nat) : Int) a1 (nI_toInt (by omega)) (fun _ => ⟨rfl, by omega⟩) hlc he hed hk ham hpn hbg hd hpd hpt hbs hb9 (by omega)) (vx_cwSW 2 hts gL_loan_L_pay rfl rfl rfl (by decide +kernel) ⟨Nat.le_of_ble_eq_true rfl, Nat.le_of_ble_eq_true rfl⟩) ⟨nk_Px.blind, fun U hU hW => ⟨rfl, by rw [hU], by rw [hU]; exact hP, va_K.moved hW.alike hK, hD.weaken (fun _ _ _ _ => trivial), by rw [hU]; exact nk_Z.go hZH hW (fun q h => hFc q h)⟩⟩ rfl rfl hl.1 rfl (lv_room (Nat.le_of_ble_eq_true rfl)) dL_loan_166 ⟨Nat.le_of_ble_eq_true rfl, Nat.le_of_ble_eq_true rfl⟩) hP hD hS hA [0, 1, 2, 3, 4, 5, 6, 7, 8, 9] [] rfl rfl rfl (by decide) (fun r166 w1 H locs hw166 hP hD hS hk9 => ?_)
          rcases hw166 with ⟨y1, y2, y3, rfl, rfl⟩ | ⟨rfl, y1, rfl⟩
          · have hP : va_P D vwCl (wX h0 h1 h2 h3 h4 h5 h6 h7 h8 h9 cI cJ d r lc bg w rm k (pn + 1) fa e1 am dd rt (tkB b (a1 * 10000) k) (va_up pd pn d) (va_up pt pn a1) (tkT tp b (a1 * 10000) pn k)) H := hP
            have hD : va_D A (wX h0 h1 h2 h3 h4 h5 h6 h7 h8 h9 cI cJ d r lc bg w rm k (pn + 1) fa e1 am dd rt (tkB b (a1 * 10000) k) (va_up pd pn d) (va_up pt pn a1) (tkT tp b (a1 * 10000) pn k)) := hD
            have hI2 := Inv_take (A := a1 * 10000) (t9 := a1) hI y2.1 y2.2 y3.2 (by omega) hw hI.1.2.2.2.2.2.1 (InvY_pay hI.2.2.2.2.2.2.2.2)
            have hdE := tk_debt y3.1
            have hch : chg (mxE e1 lc) d ((d - bg) / 365) (sm am k) (pY bg pd pt ((d - bg) / 365) pn) a1 ≤ a1 / 10 := chg_le
            obtain ⟨hlc, hd, hk, hpn, hbg, hw, hrm, he, hed, hfa, ham, hpd, hpd2, hpt, hbs, hb9, hrt, hdd, hroll, hh1, hh2, hh3, htp, hsa, hk0, he2, he2d, hga, hgb, hgb2, hpi, hdr, hpa1, he20, he21, hk0m, he28, hgbz, halE, hmxE, hlsE⟩ := Inv_f hI2
            have hbs9 := hbs
            have hbs : sm _ _ < 4611686018427387904 := Nat.lt_trans hbs9 (by decide)
            refine lv_istore (lv' := [(8, .int (nI (chg (mxE e1 lc) d ((d - bg) / 365) (sm am k) (pY bg pd pt ((d - bg) / 365) pn) a1))), (7, .int (nI (chg (mxE e1 lc) d ((d - bg) / 365) (sm am k) (pY bg pd pt ((d - bg) / 365) pn) a1))), (6, .int (nI a1)), (5, .int (nI rm)), (3, .long (lN (ceilA (sm b k)))), (0, .ref h0), (1, .int v9), (2, .int (nI q9))]) hx hb dL_loan_169 hl (by decide) rfl (fun ls hl => ?_)
            refine lv_iload hx hb dL_loan_171 (lv_at hl 0 rfl) ?_
            refine lv_bipush (v := -3) hx hb dL_loan_173 (by decide +kernel) ?_
            refine lv_icmp_ne (tgt := 195) hx hb dL_loan_175 (by decide) (fun c175 => ?_) (fun c175 => ?_)
            · refine lv_iload hx hb dL_loan_195 (lv_at hl 0 rfl) ?_
              refine lv_iload hx hb dL_loan_197 (lv_at hl 1 rfl) ?_
              refine nk_icmp_ne (tgt := 243) hx hb (by omega) (by omega) dL_loan_199 (by decide) (fun c199 => ?_) (fun c199 => ?_)
              · exfalso; omega
              · refine lv_iload hx hb dL_loan_202 (lv_at hl 0 rfl) ?_
                refine nk_if_ltN (tgt := 243) hx hb (by omega) dL_loan_204 (by decide) ?_
                refine lv_iload hx hb dL_loan_207 (lv_at hl 0 rfl) ?_
                refine lv_iload hx hb dL_loan_209 (lv_at hl 2 rfl) ?_
                refine lv_bipush (v := nI 10) hx hb dL_loan_211 (by decide +kernel) ?_
                refine nk_idiv hx hb (by omega) (by decide) (by decide) dL_loan_213 ?_
                refine nk_icmp_gt (tgt := 243) hx hb (by omega) (by omega) dL_loan_214 (by decide) (fun c214 => ?_) (fun c214 => ?_)
                · exfalso; omega
                · refine lv_aload_n hx hb dL_loan_217 rfl (lv_at hl 5 rfl) ?_
                  refine nk_rd (W.runV (As := []) (rest := []) ⟨hx, hb, hml, hown, hts⟩ (c_X0_debt l D h0 h1 h2 h3 h4 h5 h6 h7 h8 h9 cI cJ d r lc bg w rm k (pn + 1) fa e1 am dd rt (tkB b (a1 * 10000) k) (va_up pd pn d) (va_up pt pn a1) (tkT tp b (a1 * 10000) pn k) hk hbs) (cwV 0 hts gL_loan_X0_debt rfl rfl rfl (by decide +kernel) ⟨Nat.le_of_ble_eq_true rfl, Nat.le_of_ble_eq_true rfl⟩) ⟨nk_Pr.blind, va_recv hK hP (ci := 0) (q0 := 0) rfl rfl, fun U hU hW => ⟨rfl, by rw [hU]; exact hP, va_K.moved hW.alike hK⟩⟩ rfl rfl hl.1 rfl (lv_room (Nat.le_of_ble_eq_true rfl)) dL_loan_218 ⟨Nat.le_of_ble_eq_true rfl, Nat.le_of_ble_eq_true rfl⟩) ?_
                  refine W.eq (g2 := F0 m 221 ls [.long (lN (ceilA (sm (tkB b (a1 * 10000) k) k)))]) rfl ?_
                  refine lv_lload_n hx hb dL_loan_221 rfl (lv_at hl 4 rfl) ?_
                  refine lv_iload hx hb dL_loan_222 (lv_at hl 2 rfl) ?_
                  refine nk_i2l hx hb (by omega) dL_loan_224 ?_
                  refine nk_lsub hx hb (by omega) dL_loan_225 ?_
                  refine nk_lcmp_ne (tgt := 243) hx hb (by omega) (by omega) dL_loan_226 dL_loan_227 (by decide) (fun c226 => ?_) (fun c226 => ?_)
                  · exfalso; omega
                  · refine lv_aload_n hx hb dL_loan_230 rfl (lv_at hl 5 rfl) ?_
                    refine nk_rd (W.runV (As := []) (rest := []) ⟨hx, hb, hml, hown, hts⟩ (c_X0_room l D h0 h1 h2 h3 h4 h5 h6 h7 h8 h9 cI cJ d r lc bg w rm k (pn + 1) fa e1 am dd rt (tkB b (a1 * 10000) k) (va_up pd pn d) (va_up pt pn a1) (tkT tp b (a1 * 10000) pn k)) (cwV 0 hts gL_loan_X0_room rfl rfl rfl (by decide +kernel) ⟨Nat.le_of_ble_eq_true rfl, Nat.le_of_ble_eq_true rfl⟩) ⟨nk_Pr.blind, va_recv hK hP (ci := 0) (q0 := 0) rfl rfl, fun U hU hW => ⟨rfl, by rw [hU]; exact hP, va_K.moved hW.alike hK⟩⟩ rfl rfl hl.1 rfl (lv_room (Nat.le_of_ble_eq_true rfl)) dL_loan_231 ⟨Nat.le_of_ble_eq_true rfl, Nat.le_of_ble_eq_true rfl⟩) ?_
                    refine W.eq (g2 := F0 m 234 ls [.int (nI rm)]) rfl ?_
                    refine lv_iload hx hb dL_loan_234 (lv_at hl 3 rfl) ?_
                    refine nk_icmp_ne (tgt := 243) hx hb (by omega) (by omega) dL_loan_236 (by decide) (fun c236 => ?_) (fun c236 => ?_)
                    · exfalso; omega
                    · refine lv_iconst (v := nI 1) hx hb dL_loan_239 (by decide +kernel) ?_
                      refine lv_goto (tgt := 244) hx hb dL_loan_240 (by decide) ?_
                      refine W.widen (k := 2) (n := 12) (by decide) (by decide) ?_
                      exact W.zret (ty := .boolean) (v := nI 1) hx hb hr rfl (fun t ht hW => ⟨⟨nI 1, wX h0 h1 h2 h3 h4 h5 h6 h7 h8 h9 cI cJ d r lc bg w rm k (pn + 1) fa e1 am dd rt (tkB b (a1 * 10000) k) (va_up pd pn d) (va_up pt pn a1) (tkT tp b (a1 * 10000) pn k), rfl, ⟨rfl, _, _, _, _, _, _, _, _, _, _, _, _, _, _, _, _, _, _, _, _, _, hI2, rfl⟩, by rw [ht]; exact hP, va_K.moved hW.alike hK, hD⟩, hS.F ht⟩) hS.2.2 dL_loan_244
            · exact absurd c175 (nk_n3 (by omega))
          · have hP : va_P D vwCl (wX h0 h1 h2 h3 h4 h5 h6 h7 h8 h9 cI cJ d r lc bg w rm k pn fa e1 am dd rt b pd pt tp) H := hP
            have hD : va_D A (wX h0 h1 h2 h3 h4 h5 h6 h7 h8 h9 cI cJ d r lc bg w rm k pn fa e1 am dd rt b pd pt tp) := hD
            refine lv_istore (lv' := [(8, .int (-3)), (7, .int (nI (chg (mxE e1 lc) d ((d - bg) / 365) (sm am k) (pY bg pd pt ((d - bg) / 365) pn) a1))), (6, .int (nI a1)), (5, .int (nI rm)), (3, .long (lN (ceilA (sm b k)))), (0, .ref h0), (1, .int v9), (2, .int (nI q9))]) hx hb dL_loan_169 hl (by decide) rfl (fun ls hl => ?_)
            refine lv_iload hx hb dL_loan_171 (lv_at hl 0 rfl) ?_
            refine lv_bipush (v := -3) hx hb dL_loan_173 (by decide +kernel) ?_
            refine lv_icmp_ne (tgt := 195) hx hb dL_loan_175 (by decide) (fun c175 => ?_) (fun c175 => ?_)
            · exact absurd rfl c175
            · refine lv_aload_n hx hb dL_loan_178 rfl (lv_at hl 5 rfl) ?_
              refine nk_rd (W.runV (As := []) (rest := []) ⟨hx, hb, hml, hown, hts⟩ (c_X0_debt l D h0 h1 h2 h3 h4 h5 h6 h7 h8 h9 cI cJ d r lc bg w rm k pn fa e1 am dd rt b pd pt tp hk hbs) (cwV 0 hts gL_loan_X0_debt rfl rfl rfl (by decide +kernel) ⟨Nat.le_of_ble_eq_true rfl, Nat.le_of_ble_eq_true rfl⟩) ⟨nk_Pr.blind, va_recv hK hP (ci := 0) (q0 := 0) rfl rfl, fun U hU hW => ⟨rfl, by rw [hU]; exact hP, va_K.moved hW.alike hK⟩⟩ rfl rfl hl.1 rfl (lv_room (Nat.le_of_ble_eq_true rfl)) dL_loan_179 ⟨Nat.le_of_ble_eq_true rfl, Nat.le_of_ble_eq_true rfl⟩) ?_
              refine W.eq (g2 := F0 m 182 ls [.long (lN (ceilA (sm b k)))]) rfl ?_
              refine lv_lload_n hx hb dL_loan_182 rfl (lv_at hl 4 rfl) ?_
              refine nk_lcmp_ne (tgt := 191) hx hb (by omega) (by omega) dL_loan_183 dL_loan_184 (by decide) (fun c183 => ?_) (fun c183 => ?_)
              · exfalso; omega
              · refine lv_iconst (v := nI 1) hx hb dL_loan_187 (by decide +kernel) ?_
                refine lv_goto (tgt := 244) hx hb dL_loan_188 (by decide) ?_
                refine W.widen (k := 2) (n := 12) (by decide) (by decide) ?_
                exact W.zret (ty := .boolean) (v := nI 1) hx hb hr rfl (fun t ht hW => ⟨⟨nI 1, wX h0 h1 h2 h3 h4 h5 h6 h7 h8 h9 cI cJ d r lc bg w rm k pn fa e1 am dd rt b pd pt tp, rfl, ⟨rfl, _, _, _, _, _, _, _, _, _, _, _, _, _, _, _, _, _, _, _, _, _, hI, rfl⟩, by rw [ht]; exact hP, va_K.moved hW.alike hK, hD⟩, hS.F ht⟩) hS.2.2 dL_loan_244
        · have hP : va_P D vwCl (wX h0 h1 h2 h3 h4 h5 h6 h7 h8 h9 cI cJ d r lc bg w rm k pn fa e1 am dd rt b pd pt tp) H := hP
          have hD : va_D A (wX h0 h1 h2 h3 h4 h5 h6 h7 h8 h9 cI cJ d r lc bg w rm k pn fa e1 am dd rt b pd pt tp) := hD
          refine lv_istore (lv' := [(7, .int (-3)), (6, .int (nI a1)), (5, .int (nI rm)), (3, .long (lN (ceilA (sm b k)))), (0, .ref h0), (1, .int v9), (2, .int (nI q9))]) hx hb dL_loan_161 hl (by decide) rfl (fun ls hl => ?_)
          refine lv_aload_n hx hb dL_loan_163 rfl (lv_at hl 4 rfl) ?_
          refine lv_iload hx hb dL_loan_164 (lv_at hl 1 rfl) ?_
          have hZH := hZ.kept hS.2.1
          have hFc := va_free (wc := wX h0 h1 h2 h3 h4 h5 h6 h7 h8 h9 cI cJ d r lc bg w rm k pn fa e1 am dd rt b pd pt tp) hD hS hA [0, 1, 2, 3, 4, 5, 6, 7, 8, 9] rfl
          refine nk_icall (wr := []) (mc := 1) (ms := 6) (vx_runSW (As := [.ref h0, .int (nI a1)]) (rest := []) ⟨hx, hb, hml, hown, hts⟩ (c_L_pay l hfl D h0 h1 h2 h3 h4 h5 h6 h7 h8 h9 cI cJ d r lc bg w rm k pn fa e1 am dd rt b pd pt tp H.size (nI a1) ((a1 : Nat) : Int) a1 (nI_toInt (by omega)) (fun _ => ⟨rfl, by omega⟩) hlc he hed hk ham hpn hbg hd hpd hpt hbs hb9 (by omega)) (vx_cwSW 2 hts gL_loan_L_pay rfl rfl rfl (by decide +kernel) ⟨Nat.le_of_ble_eq_true rfl, Nat.le_of_ble_eq_true rfl⟩) ⟨nk_Px.blind, fun U hU hW => ⟨rfl, by rw [hU], by rw [hU]; exact hP, va_K.moved hW.alike hK, hD.weaken (fun _ _ _ _ => trivial), by rw [hU]; exact nk_Z.go hZH hW (fun q h => hFc q h)⟩⟩ rfl rfl hl.1 rfl (lv_room (Nat.le_of_ble_eq_true rfl)) dL_loan_166 ⟨Nat.le_of_ble_eq_true rfl, Nat.le_of_ble_eq_true rfl⟩) hP hD hS hA [0, 1, 2, 3, 4, 5, 6, 7, 8, 9] [] rfl rfl rfl (by decide) (fun r166 w1 H locs hw166 hP hD hS hk9 => ?_)
          rcases hw166 with ⟨y1, y2, y3, rfl, rfl⟩ | ⟨rfl, y1, rfl⟩
          · exact absurd y2 x1.2
          · have hP : va_P D vwCl (wX h0 h1 h2 h3 h4 h5 h6 h7 h8 h9 cI cJ d r lc bg w rm k pn fa e1 am dd rt b pd pt tp) H := hP
            have hD : va_D A (wX h0 h1 h2 h3 h4 h5 h6 h7 h8 h9 cI cJ d r lc bg w rm k pn fa e1 am dd rt b pd pt tp) := hD
            refine lv_istore (lv' := [(8, .int (-3)), (7, .int (-3)), (6, .int (nI a1)), (5, .int (nI rm)), (3, .long (lN (ceilA (sm b k)))), (0, .ref h0), (1, .int v9), (2, .int (nI q9))]) hx hb dL_loan_169 hl (by decide) rfl (fun ls hl => ?_)
            refine lv_iload hx hb dL_loan_171 (lv_at hl 0 rfl) ?_
            refine lv_bipush (v := -3) hx hb dL_loan_173 (by decide +kernel) ?_
            refine lv_icmp_ne (tgt := 195) hx hb dL_loan_175 (by decide) (fun c175 => ?_) (fun c175 => ?_)
            · exact absurd rfl c175
            · refine lv_aload_n hx hb dL_loan_178 rfl (lv_at hl 5 rfl) ?_
              refine nk_rd (W.runV (As := []) (rest := []) ⟨hx, hb, hml, hown, hts⟩ (c_X0_debt l D h0 h1 h2 h3 h4 h5 h6 h7 h8 h9 cI cJ d r lc bg w rm k pn fa e1 am dd rt b pd pt tp hk hbs) (cwV 0 hts gL_loan_X0_debt rfl rfl rfl (by decide +kernel) ⟨Nat.le_of_ble_eq_true rfl, Nat.le_of_ble_eq_true rfl⟩) ⟨nk_Pr.blind, va_recv hK hP (ci := 0) (q0 := 0) rfl rfl, fun U hU hW => ⟨rfl, by rw [hU]; exact hP, va_K.moved hW.alike hK⟩⟩ rfl rfl hl.1 rfl (lv_room (Nat.le_of_ble_eq_true rfl)) dL_loan_179 ⟨Nat.le_of_ble_eq_true rfl, Nat.le_of_ble_eq_true rfl⟩) ?_
              refine W.eq (g2 := F0 m 182 ls [.long (lN (ceilA (sm b k)))]) rfl ?_
              refine lv_lload_n hx hb dL_loan_182 rfl (lv_at hl 4 rfl) ?_
              refine nk_lcmp_ne (tgt := 191) hx hb (by omega) (by omega) dL_loan_183 dL_loan_184 (by decide) (fun c183 => ?_) (fun c183 => ?_)
              · exfalso; omega
              · refine lv_iconst (v := nI 1) hx hb dL_loan_187 (by decide +kernel) ?_
                refine lv_goto (tgt := 244) hx hb dL_loan_188 (by decide) ?_
                refine W.widen (k := 2) (n := 12) (by decide) (by decide) ?_
                exact W.zret (ty := .boolean) (v := nI 1) hx hb hr rfl (fun t ht hW => ⟨⟨nI 1, wX h0 h1 h2 h3 h4 h5 h6 h7 h8 h9 cI cJ d r lc bg w rm k pn fa e1 am dd rt b pd pt tp, rfl, ⟨rfl, _, _, _, _, _, _, _, _, _, _, _, _, _, _, _, _, _, _, _, _, _, hI, rfl⟩, by rw [ht]; exact hP, va_K.moved hW.alike hK, hD⟩, hS.F ht⟩) hS.2.2 dL_loan_244
      refine nk_if_ne (tgt := 146) hx hb (lwV_i (by decide) (by decide)) dL_loan_138 (by decide) (fun c138 => ?_) (fun c138 => ?_)
      · refine lv_sipush (v := nI 3000) hx hb dL_loan_146 (by decide +kernel) ?_
        exact kj149 3000 (by decide)
      · refine lv_ldc (v := nI 10000000) hx hb hown k78 dL_loan_141 ?_
        refine lv_goto (tgt := 149) hx hb dL_loan_143 (by decide) ?_
        exact kj149 10000000 (by decide)
  · refine lv_iconst (v := nI 1) hx hb dL_loan_16 (by decide +kernel) ?_
    refine lv_iload_n hx hb dL_loan_17 rfl (lv_at hl 3 rfl) ?_
    refine lv_iload_n hx hb dL_loan_18 rfl (lv_at hl 3 rfl) ?_
    refine lv_bipush (v := nI 17) hx hb dL_loan_19 (by decide +kernel) ?_
    refine lv_ishr hx hb dL_loan_21 ?_
    refine lv_iconst (v := nI 2) hx hb dL_loan_22 (by decide +kernel) ?_
    refine nk_rd (W.runS (As := [.int (v9 >>> (nI 17 &&& 31)), .int (nI 2)]) (rest := [.int v9, .int (nI 1)]) ⟨hx, hb, hml, hown, hts⟩ (c_L_low l (v9 >>> (nI 17 &&& 31)) 2 (by omega) (by omega)) (va_cwS 2 hts gL_loan_L_low rfl rfl rfl (by decide +kernel) ⟨Nat.le_of_ble_eq_true rfl, Nat.le_of_ble_eq_true rfl⟩) ⟨nk_P0.blind, fun U hU hW => ⟨rfl, trivial⟩⟩ rfl rfl hl.1 rfl (lv_room (Nat.le_of_ble_eq_true rfl)) dL_loan_23 ⟨Nat.le_of_ble_eq_true rfl, Nat.le_of_ble_eq_true rfl⟩) ?_
    refine W.eq (g2 := F0 m 26 ls [.int (nI (lwV (v9 >>> (nI 17 &&& 31)) 2)), .int v9, .int (nI 1)]) rfl ?_
    have kj37 : ∀ (n9 : Nat), (0 < n9 ∧ n9 ≤ 10000000) → W p l e (headSpec wsL_loan { frames := 9, cells := 2, slots := 12, locals := 160 }).room s m args below meth c s.heap [] (0) (0) (MQ below (va_Qi (fun r9 w1 => r9 = nI 1 ∧ nk_LW h0 h1 h2 h3 h4 h5 h6 h7 h8 h9 cI cJ lc e1 w1) (fun w1 t => nk_At D (tX cI cJ) A w1 t) A) args s 2 12 A) (F0 m 37 ls [.int (nI n9), .int v9, .int (nI 1)]) := by
      intro n9 hn9
      refine nk_rd (W.runS (As := [.int v9, .int (nI n9)]) (rest := [.int (nI 1)]) ⟨hx, hb, hml, hown, hts⟩ (c_L_low l v9 n9 (by omega) (by omega)) (va_cwS 2 hts gL_loan_L_low rfl rfl rfl (by decide +kernel) ⟨Nat.le_of_ble_eq_true rfl, Nat.le_of_ble_eq_true rfl⟩) ⟨nk_P0.blind, fun U hU hW => ⟨rfl, trivial⟩⟩ rfl rfl hl.1 rfl (lv_room (Nat.le_of_ble_eq_true rfl)) dL_loan_37 ⟨Nat.le_of_ble_eq_true rfl, Nat.le_of_ble_eq_true rfl⟩) ?_
      refine W.eq (g2 := F0 m 40 ls [.int (nI (lwV v9 n9)), .int (nI 1)]) rfl ?_
      refine nk_iadd hx hb dL_loan_40 ?_
      have hlw := lwV_lt (x := v9) (n := n9) hn9.1
      obtain ⟨a1, ha1⟩ : ∃ a1 : Nat, a1 = 1 + (lwV v9 n9) := ⟨_, rfl⟩
      refine nk_topi (y := nI a1) (by rw [ha1]) ?_
      refine lv_istore (lv' := [(6, .int (nI a1)), (5, .int (nI rm)), (3, .long (lN (ceilA (sm b k)))), (0, .ref h0), (1, .int v9), (2, .int (nI q9))]) hx hb dL_loan_41 hl (by decide) rfl (fun ls hl => ?_)
      refine lv_aload_n hx hb dL_loan_43 rfl (lv_at hl 3 rfl) ?_
      refine lv_iload hx hb dL_loan_44 (lv_at hl 0 rfl) ?_
      have hZH := hZ.kept hS.2.1
      have hFc := va_free (wc := wX h0 h1 h2 h3 h4 h5 h6 h7 h8 h9 cI cJ d r lc bg w rm k pn fa e1 am dd rt b pd pt tp) hD hS hA [0, 1, 2, 3, 4, 5, 6, 7, 8, 9] rfl
      refine nk_icall (wr := []) (mc := 1) (ms := 6) (vx_runSW (As := [.ref h0, .int (nI a1)]) (rest := []) ⟨hx, hb, hml, hown, hts⟩ (c_L_draw l hfl D h0 h1 h2 h3 h4 h5 h6 h7 h8 h9 cI cJ d r lc bg w rm k pn fa e1 am dd rt b pd pt tp s.heap.size (nI a1) ((a1 : Nat) : Int) a1 (nI_toInt (by omega)) (fun _ => ⟨rfl, by omega⟩) hlc he hk hrm (by omega)) (vx_cwSW 2 hts gL_loan_L_draw rfl rfl rfl (by decide +kernel) ⟨Nat.le_of_ble_eq_true rfl, Nat.le_of_ble_eq_true rfl⟩) ⟨nk_Px.blind, fun U hU hW => ⟨rfl, by rw [hU], by rw [hU]; exact hP, va_K.moved hW.alike hK, hD.weaken (fun _ _ _ _ => trivial), by rw [hU]; exact nk_Z.go hZH hW (fun q h => hFc q h)⟩⟩ rfl rfl hl.1 rfl (lv_room (Nat.le_of_ble_eq_true rfl)) dL_loan_46 ⟨Nat.le_of_ble_eq_true rfl, Nat.le_of_ble_eq_true rfl⟩) hP hD hS hA [0, 1, 2, 3, 4, 5, 6, 7, 8, 9] [] rfl rfl rfl (by decide) (fun r46 w1 H locs hw46 hP hD hS hk9 => ?_)
      rcases hw46 with ⟨x1, x2, x3, rfl, rfl⟩ | ⟨rfl, x1, rfl⟩
      · have hP : va_P D vwCl (wX h0 h1 h2 h3 h4 h5 h6 h7 h8 h9 cI cJ d r lc bg w (rm - a1) (k + 1) pn fa e1 (va_up am k a1) (va_up dd k d) (va_up rt k r) (va_up b k (a1 * 10000)) pd pt tp) H := hP
        have hD : va_D A (wX h0 h1 h2 h3 h4 h5 h6 h7 h8 h9 cI cJ d r lc bg w (rm - a1) (k + 1) pn fa e1 (va_up am k a1) (va_up dd k d) (va_up rt k r) (va_up b k (a1 * 10000)) pd pt tp) := hD
        have hI2 := Inv_draw hI x3.1 x3.2 x2.1 x2.2
        have hdE : ceilA (sm (va_up b k (a1 * 10000)) (k + 1)) = ceilA (sm b k) + a1 := by rw [sm_up, ceilA_add]
        obtain ⟨hlc, hd, hk, hpn, hbg, hw, hrm, he, hed, hfa, ham, hpd, hpd2, hpt, hbs, hb9, hrt, hdd, hroll, hh1, hh2, hh3, htp, hsa, hk0, he2, he2d, hga, hgb, hgb2, hpi, hdr, hpa1, he20, he21, hk0m, he28, hgbz, halE, hmxE, hlsE⟩ := Inv_f hI2
        have hbs9 := hbs
        have hbs : sm _ _ < 4611686018427387904 := Nat.lt_trans hbs9 (by decide)
        refine lv_istore (lv' := [(7, .int (nI (rm - a1))), (6, .int (nI a1)), (5, .int (nI rm)), (3, .long (lN (ceilA (sm b k)))), (0, .ref h0), (1, .int v9), (2, .int (nI q9))]) hx hb dL_loan_49 hl (by decide) rfl (fun ls hl => ?_)
        refine lv_iload hx hb dL_loan_51 (lv_at hl 0 rfl) ?_
        refine lv_bipush (v := -3) hx hb dL_loan_53 (by decide +kernel) ?_
        refine lv_icmp_ne (tgt := 84) hx hb dL_loan_55 (by decide) (fun c55 => ?_) (fun c55 => ?_)
        · refine lv_iload hx hb dL_loan_84 (lv_at hl 0 rfl) ?_
          refine lv_iload hx hb dL_loan_86 (lv_at hl 2 rfl) ?_
          refine lv_iload hx hb dL_loan_88 (lv_at hl 1 rfl) ?_
          refine nk_isub hx hb (by omega) dL_loan_90 ?_
          refine nk_icmp_ne (tgt := 120) hx hb (by omega) (by omega) dL_loan_91 (by decide) (fun c91 => ?_) (fun c91 => ?_)
          · exfalso; omega
          · refine lv_aload_n hx hb dL_loan_94 rfl (lv_at hl 4 rfl) ?_
            refine nk_rd (W.runV (As := []) (rest := []) ⟨hx, hb, hml, hown, hts⟩ (c_X0_room l D h0 h1 h2 h3 h4 h5 h6 h7 h8 h9 cI cJ d r lc bg w (rm - a1) (k + 1) pn fa e1 (va_up am k a1) (va_up dd k d) (va_up rt k r) (va_up b k (a1 * 10000)) pd pt tp) (cwV 0 hts gL_loan_X0_room rfl rfl rfl (by decide +kernel) ⟨Nat.le_of_ble_eq_true rfl, Nat.le_of_ble_eq_true rfl⟩) ⟨nk_Pr.blind, va_recv hK hP (ci := 0) (q0 := 0) rfl rfl, fun U hU hW => ⟨rfl, by rw [hU]; exact hP, va_K.moved hW.alike hK⟩⟩ rfl rfl hl.1 rfl (lv_room (Nat.le_of_ble_eq_true rfl)) dL_loan_95 ⟨Nat.le_of_ble_eq_true rfl, Nat.le_of_ble_eq_true rfl⟩) ?_
            refine W.eq (g2 := F0 m 98 ls [.int (nI (rm - a1))]) rfl ?_
            refine lv_iload hx hb dL_loan_98 (lv_at hl 0 rfl) ?_
            refine nk_icmp_ne (tgt := 120) hx hb (by omega) (by omega) dL_loan_100 (by decide) (fun c100 => ?_) (fun c100 => ?_)
            · exfalso; omega
            · refine lv_aload_n hx hb dL_loan_103 rfl (lv_at hl 4 rfl) ?_
              refine nk_rd (W.runV (As := []) (rest := []) ⟨hx, hb, hml, hown, hts⟩ (c_X0_debt l D h0 h1 h2 h3 h4 h5 h6 h7 h8 h9 cI cJ d r lc bg w (rm - a1) (k + 1) pn fa e1 (va_up am k a1) (va_up dd k d) (va_up rt k r) (va_up b k (a1 * 10000)) pd pt tp hk hbs) (cwV 0 hts gL_loan_X0_debt rfl rfl rfl (by decide +kernel) ⟨Nat.le_of_ble_eq_true rfl, Nat.le_of_ble_eq_true rfl⟩) ⟨nk_Pr.blind, va_recv hK hP (ci := 0) (q0 := 0) rfl rfl, fun U hU hW => ⟨rfl, by rw [hU]; exact hP, va_K.moved hW.alike hK⟩⟩ rfl rfl hl.1 rfl (lv_room (Nat.le_of_ble_eq_true rfl)) dL_loan_104 ⟨Nat.le_of_ble_eq_true rfl, Nat.le_of_ble_eq_true rfl⟩) ?_
              refine W.eq (g2 := F0 m 107 ls [.long (lN (ceilA (sm (va_up b k (a1 * 10000)) (k + 1))))]) rfl ?_
              refine lv_lload_n hx hb dL_loan_107 rfl (lv_at hl 3 rfl) ?_
              refine lv_iload hx hb dL_loan_108 (lv_at hl 1 rfl) ?_
              refine nk_i2l hx hb (by omega) dL_loan_110 ?_
              refine nk_ladd hx hb dL_loan_111 ?_
              refine nk_lcmp_ne (tgt := 120) hx hb (by omega) (by omega) dL_loan_112 dL_loan_113 (by decide) (fun c112 => ?_) (fun c112 => ?_)
              · exfalso; omega
              · refine lv_iconst (v := nI 1) hx hb dL_loan_116 (by decide +kernel) ?_
                refine lv_goto (tgt := 121) hx hb dL_loan_117 (by decide) ?_
                refine W.widen (k := 2) (n := 12) (by decide) (by decide) ?_
                exact W.zret (ty := .boolean) (v := nI 1) hx hb hr rfl (fun t ht hW => ⟨⟨nI 1, wX h0 h1 h2 h3 h4 h5 h6 h7 h8 h9 cI cJ d r lc bg w (rm - a1) (k + 1) pn fa e1 (va_up am k a1) (va_up dd k d) (va_up rt k r) (va_up b k (a1 * 10000)) pd pt tp, rfl, ⟨rfl, _, _, _, _, _, _, _, _, _, _, _, _, _, _, _, _, _, _, _, _, _, hI2, rfl⟩, by rw [ht]; exact hP, va_K.moved hW.alike hK, hD⟩, hS.F ht⟩) hS.2.2 dL_loan_121
        · exact absurd c55 (nk_n3 (by omega))
      · have hP : va_P D vwCl (wX h0 h1 h2 h3 h4 h5 h6 h7 h8 h9 cI cJ d r lc bg w rm k pn fa e1 am dd rt b pd pt tp) H := hP
        have hD : va_D A (wX h0 h1 h2 h3 h4 h5 h6 h7 h8 h9 cI cJ d r lc bg w rm k pn fa e1 am dd rt b pd pt tp) := hD
        refine lv_istore (lv' := [(7, .int (-3)), (6, .int (nI a1)), (5, .int (nI rm)), (3, .long (lN (ceilA (sm b k)))), (0, .ref h0), (1, .int v9), (2, .int (nI q9))]) hx hb dL_loan_49 hl (by decide) rfl (fun ls hl => ?_)
        refine lv_iload hx hb dL_loan_51 (lv_at hl 0 rfl) ?_
        refine lv_bipush (v := -3) hx hb dL_loan_53 (by decide +kernel) ?_
        refine lv_icmp_ne (tgt := 84) hx hb dL_loan_55 (by decide) (fun c55 => ?_) (fun c55 => ?_)
        · exact absurd rfl c55
        · refine lv_aload_n hx hb dL_loan_58 rfl (lv_at hl 4 rfl) ?_
          refine nk_rd (W.runV (As := []) (rest := []) ⟨hx, hb, hml, hown, hts⟩ (c_X0_room l D h0 h1 h2 h3 h4 h5 h6 h7 h8 h9 cI cJ d r lc bg w rm k pn fa e1 am dd rt b pd pt tp) (cwV 0 hts gL_loan_X0_room rfl rfl rfl (by decide +kernel) ⟨Nat.le_of_ble_eq_true rfl, Nat.le_of_ble_eq_true rfl⟩) ⟨nk_Pr.blind, va_recv hK hP (ci := 0) (q0 := 0) rfl rfl, fun U hU hW => ⟨rfl, by rw [hU]; exact hP, va_K.moved hW.alike hK⟩⟩ rfl rfl hl.1 rfl (lv_room (Nat.le_of_ble_eq_true rfl)) dL_loan_59 ⟨Nat.le_of_ble_eq_true rfl, Nat.le_of_ble_eq_true rfl⟩) ?_
          refine W.eq (g2 := F0 m 62 ls [.int (nI rm)]) rfl ?_
          refine lv_iload hx hb dL_loan_62 (lv_at hl 2 rfl) ?_
          refine nk_icmp_ne (tgt := 80) hx hb (by omega) (by omega) dL_loan_64 (by decide) (fun c64 => ?_) (fun c64 => ?_)
          · exfalso; omega
          · refine lv_aload_n hx hb dL_loan_67 rfl (lv_at hl 4 rfl) ?_
            refine nk_rd (W.runV (As := []) (rest := []) ⟨hx, hb, hml, hown, hts⟩ (c_X0_debt l D h0 h1 h2 h3 h4 h5 h6 h7 h8 h9 cI cJ d r lc bg w rm k pn fa e1 am dd rt b pd pt tp hk hbs) (cwV 0 hts gL_loan_X0_debt rfl rfl rfl (by decide +kernel) ⟨Nat.le_of_ble_eq_true rfl, Nat.le_of_ble_eq_true rfl⟩) ⟨nk_Pr.blind, va_recv hK hP (ci := 0) (q0 := 0) rfl rfl, fun U hU hW => ⟨rfl, by rw [hU]; exact hP, va_K.moved hW.alike hK⟩⟩ rfl rfl hl.1 rfl (lv_room (Nat.le_of_ble_eq_true rfl)) dL_loan_68 ⟨Nat.le_of_ble_eq_true rfl, Nat.le_of_ble_eq_true rfl⟩) ?_
            refine W.eq (g2 := F0 m 71 ls [.long (lN (ceilA (sm b k)))]) rfl ?_
            refine lv_lload_n hx hb dL_loan_71 rfl (lv_at hl 3 rfl) ?_
            refine nk_lcmp_ne (tgt := 80) hx hb (by omega) (by omega) dL_loan_72 dL_loan_73 (by decide) (fun c72 => ?_) (fun c72 => ?_)
            · exfalso; omega
            · refine lv_iconst (v := nI 1) hx hb dL_loan_76 (by decide +kernel) ?_
              refine lv_goto (tgt := 121) hx hb dL_loan_77 (by decide) ?_
              refine W.widen (k := 2) (n := 12) (by decide) (by decide) ?_
              exact W.zret (ty := .boolean) (v := nI 1) hx hb hr rfl (fun t ht hW => ⟨⟨nI 1, wX h0 h1 h2 h3 h4 h5 h6 h7 h8 h9 cI cJ d r lc bg w rm k pn fa e1 am dd rt b pd pt tp, rfl, ⟨rfl, _, _, _, _, _, _, _, _, _, _, _, _, _, _, _, _, _, _, _, _, _, hI, rfl⟩, by rw [ht]; exact hP, va_K.moved hW.alike hK, hD⟩, hS.F ht⟩) hS.2.2 dL_loan_121
    refine nk_if_ne (tgt := 34) hx hb (lwV_i (by decide) (by decide)) dL_loan_26 (by decide) (fun c26 => ?_) (fun c26 => ?_)
    · refine lv_sipush (v := nI 9000) hx hb dL_loan_34 (by decide +kernel) ?_
      exact kj37 9000 (by decide)
    · refine lv_ldc (v := nI 10000000) hx hb hown k78 dL_loan_29 ?_
      refine lv_goto (tgt := 37) hx hb dL_loan_31 (by decide) ?_
      exact kj37 10000000 (by decide)
