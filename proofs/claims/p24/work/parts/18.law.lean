set_option maxHeartbeats 8000000 in
set_option maxRecDepth 100000 in
theorem lc_post {p : Program} {l : Launch} {e : Env} {s : State} {m : MethodId} {below : List Frame} {meth : Method} {c : Code} {sb L : Nat} {xs : Nat → Int32} {D : va_G} {h0 h1 h2 h3 h4 h5 h6 h7 h8 h9 : Nat} {cI cJ : ClassId} {H : Heap} {locs : List Loc} {cells slots : Nat} {Q : State → Prop} {ls : Array Slot} {A : Nat → Prop} {B E T n q : Nat} {v : Int32}
    (C0 : lw_At p s m meth c sb L xs) (hfl : l.stackTraces = false) (hK : va_K D vwCl (tX cI cJ) s) (hA : ∀ q : Nat, s.heap.size ≤ q → A q) (hbA : ¬ A sb) (hZ : nk_Z A s s.heap) (hc9 : cells + 1 ≤ 125) (hs9 : slots + 6 ≤ 1879) (hL : L ≤ 260) (hSt : nk_St D A h0 h1 h2 h3 h4 h5 h6 h7 h8 h9 cI cJ B E H) (hS : va_S A s.heap H locs) (hl : lv_has ls 15 [(0, .ref sb), (1, .ref h0), (2, .int (nI B)), (3, .int (nI E)), (4, .int (nI 1)), (5, .int (nI T)), (6, .int (nI n))]) (hT : T ≤ 54) (hn : n < T) 
    (kk : ∀ (H1 : Heap) (locs1 : List Loc) (ls1 : Array Slot), nk_St D A h0 h1 h2 h3 h4 h5 h6 h7 h8 h9 cI cJ B E H1 → va_S A s.heap H1 locs1 → lv_has ls1 15 [(0, .ref sb), (1, .ref h0), (2, .int (nI B)), (3, .int (nI E)), (4, .int (nI 1)), (5, .int (nI T)), (6, .int (nI (n + 1)))] → W p l e room_1 s m #[Value.ref sb] below meth c H1 locs1 cells slots Q (F0 m 78 ls1 [])) : W p l e room_1 s m #[Value.ref sb] below meth c H locs cells slots Q (F0 m 583 ls []) := by
  obtain ⟨hx, hb, hr, hml, hown, hts0, hX, hbl, hlocks, hgv⟩ := id C0
  have hts : ∀ w ∈ wsL_law, w.before #[Value.ref sb] s = true := fun w h => hts0 w (wsL_law_in w h)
  have hown : s.vm.findClass RL = some m.cls := hown
  obtain ⟨d, r, lc, bg, w, rm, k, pn, fa, e1, am, dd, rt, b, pd, pt, tp, gb, dr, pa, pi, ga, e2, hI, hw0, hbe, hP, hD⟩ := hSt
  obtain ⟨hlc, hd, hk, hpn, hbg, hw, hrm, he, hed, hfa, ham, hpd, hpd2, hpt, hbs, hb9, hrt, hdd, hroll, hh1, hh2, hh3, htp, hsa, hk0, he2, he2d, hga, hgb, hgb2, hpi, hdr, hpa1, he20, he21, hk0m, he28, hgbz, halE, hmxE, hlsE⟩ := Inv_f hI
  have hbs9 := hbs
  have hbs : sm _ _ < 4611686018427387904 := Nat.lt_trans hbs9 (by decide)
  refine lv_iload hx hb dL_law_583 (lv_at hl 4 rfl) ?_
  refine nk_if_eq (tgt := 599) hx hb (by omega) dL_law_585 (by decide) (fun c585 => ?_) (fun c585 => ?_)
  · exfalso; omega
  · refine lv_aload_n hx hb dL_law_588 rfl (lv_at hl 1 rfl) ?_
    have hZH := hZ.kept hS.2.1
    have hFc := va_free (wc := wX h0 h1 h2 h3 h4 h5 h6 h7 h8 h9 cI cJ d r lc bg w rm k pn fa e1 am dd rt b pd pt tp) hD hS hA [0, 1, 2, 3, 4, 5, 6, 7, 8, 9] rfl
    refine nk_rdt (mc := 1) (ms := 6) (W.runS (As := [.ref h0]) (rest := []) ⟨hx, hb, hml, hown, hts⟩ (c_L_holds l hfl D h0 h1 h2 h3 h4 h5 h6 h7 h8 h9 cI cJ d r lc bg w rm k pn fa e1 am dd rt b pd pt tp H.size gb dr pa pi ga e2 hI) (va_cwS 1 hts gL_law_L_holds rfl rfl rfl (by decide +kernel) ⟨Nat.le_of_ble_eq_true rfl, Nat.le_of_ble_eq_true rfl⟩) ⟨nk_Px.blind, fun U hU hW => ⟨rfl, by rw [hU], by rw [hU]; exact hP, va_K.moved hW.alike hK, hD.weaken (fun _ _ _ _ => trivial), by rw [hU]; exact nk_Z.go hZH hW (fun q h => hFc q h)⟩⟩ rfl rfl hl.1 rfl (lv_room (Nat.le_of_ble_eq_true rfl)) dL_law_589 ⟨by show cells + 1 ≤ 125; omega, by show slots + 6 ≤ 1879; omega⟩) ?_
    refine W.eq (g2 := F0 m 592 ls [.int (nI 1)]) rfl ?_
    refine nk_if_eq (tgt := 599) hx hb (by omega) dL_law_592 (by decide) (fun c592 => ?_) (fun c592 => ?_)
    · exfalso; omega
    · refine lv_iconst (v := nI 1) hx hb dL_law_595 (by decide +kernel) ?_
      refine lv_goto (tgt := 600) hx hb dL_law_596 (by decide) ?_
      refine lv_istore (lv' := [(4, .int (nI 1)), (0, .ref sb), (1, .ref h0), (2, .int (nI B)), (3, .int (nI E)), (5, .int (nI T)), (6, .int (nI n))]) hx hb dL_law_600 hl (by decide) rfl (fun ls hl => ?_)
      refine lv_iinc (v := (nI (n + 1))) (lv' := [(6, .int (nI (n + 1))), (4, .int (nI 1)), (0, .ref sb), (1, .ref h0), (2, .int (nI B)), (3, .int (nI E)), (5, .int (nI T))]) hx hb dL_law_602 hl (k := 6) rfl (nI_1 _) (by decide) rfl (fun ls hl => ?_)
      refine lv_goto (tgt := 78) hx hb dL_law_605 (by decide) ?_
      exact kk _ _ _ ⟨_, _, _, _, _, _, _, _, _, _, _, _, _, _, _, _, _, _, _, _, _, _, _, hI, hw0, hbe, hP, hD⟩ hS (lv_sub hl [2, 3, 4, 5, 1, 6, 0] rfl)
set_option maxHeartbeats 8000000 in
set_option maxRecDepth 100000 in
theorem lc_step {p : Program} {l : Launch} {e : Env} {s : State} {m : MethodId} {below : List Frame} {meth : Method} {c : Code} {sb L : Nat} {xs : Nat → Int32} {D : va_G} {h0 h1 h2 h3 h4 h5 h6 h7 h8 h9 : Nat} {cI cJ : ClassId} {H : Heap} {locs : List Loc} {cells slots : Nat} {Q : State → Prop} {ls : Array Slot} {A : Nat → Prop} {B E T n q : Nat} {v : Int32}
    (C0 : lw_At p s m meth c sb L xs) (hfl : l.stackTraces = false) (hK : va_K D vwCl (tX cI cJ) s) (hA : ∀ q : Nat, s.heap.size ≤ q → A q) (hbA : ¬ A sb) (hZ : nk_Z A s s.heap) (hc9 : cells + 2 ≤ 125) (hs9 : slots + 12 ≤ 1879) (hL : L ≤ 260) (hSt : nk_St D A h0 h1 h2 h3 h4 h5 h6 h7 h8 h9 cI cJ B E H) (hS : va_S A s.heap H locs) (hl : lv_has ls 15 [(0, .ref sb), (1, .ref h0), (2, .int (nI B)), (3, .int (nI E)), (4, .int (nI 1)), (5, .int (nI T)), (6, .int (nI n))]) (hT : T ≤ 54) (hn : n < T) 
    (kk : ∀ (H1 : Heap) (locs1 : List Loc) (ls1 : Array Slot) (B1 E1 : Nat), nk_St D A h0 h1 h2 h3 h4 h5 h6 h7 h8 h9 cI cJ B1 E1 H1 → va_S A s.heap H1 locs1 → lv_has ls1 15 [(0, .ref sb), (1, .ref h0), (2, .int (nI B1)), (3, .int (nI E1)), (4, .int (nI 1)), (5, .int (nI T)), (6, .int (nI n))] → W p l e room_1 s m #[Value.ref sb] below meth c H1 locs1 (cells + 2) (slots + 12) Q (F0 m 583 ls1 [])) : W p l e room_1 s m #[Value.ref sb] below meth c H locs cells slots Q (F0 m 90 ls []) := by
  obtain ⟨hx, hb, hr, hml, hown, hts0, hX, hbl, hlocks, hgv⟩ := id C0
  have hts : ∀ w ∈ wsL_law, w.before #[Value.ref sb] s = true := fun w h => hts0 w (wsL_law_in w h)
  have hown : s.vm.findClass RL = some m.cls := hown
  have hSt9 := hSt
  obtain ⟨d, r, lc, bg, w, rm, k, pn, fa, e1, am, dd, rt, b, pd, pt, tp, gb, dr, pa, pi, ga, e2, -, -, hbe, -, -⟩ := hSt9
  have hB9 : B ≤ 1 := hbe.2.1
  clear hbe
  refine lv_aload_n hx hb dL_law_90 rfl (lv_at hl 0 rfl) ?_
  refine lv_iconst (v := nI 1) hx hb dL_law_91 (by decide +kernel) ?_
  refine lv_iload hx hb dL_law_92 (lv_at hl 6 rfl) ?_
  refine nk_iadd hx hb dL_law_94 ?_
  refine nk_rd (W.runS (As := [.ref sb, .int (nI (1 + n))]) (rest := []) ⟨hx, hb, hml, hown, hts⟩ (c_L_cell l sb L xs (1 + n) hL (by omega)) (va_cwS 2 hts gL_law_L_cell rfl rfl rfl (by decide +kernel) ⟨Nat.le_of_ble_eq_true rfl, Nat.le_of_ble_eq_true rfl⟩) ⟨nk_Psc.blind, fun U hU hW => ⟨rfl, by rw [hU]; exact va_X.moved hW.alike (hX.kept (hS.2.1 _ hbl hbA)), by rw [hU]; exact Nat.lt_of_lt_of_le hbl hS.1⟩⟩ rfl rfl hl.1 rfl (lv_room (Nat.le_of_ble_eq_true rfl)) dL_law_95 ⟨by show cells + 0 ≤ 125; omega, by show slots + 0 ≤ 1879; omega⟩) ?_
  refine W.eq (g2 := F0 m 98 ls [.int (cellV L xs (1 + n))]) rfl ?_
  obtain ⟨v, hv⟩ : ∃ x : Int32, x = cellV L xs (1 + n) := ⟨_, rfl⟩
  refine nk_topi (y := v) (by rw [hv]) ?_
  refine lv_istore (lv' := [(7, .int v), (0, .ref sb), (1, .ref h0), (2, .int (nI B)), (3, .int (nI E)), (4, .int (nI 1)), (5, .int (nI T)), (6, .int (nI n))]) hx hb dL_law_98 hl (by decide) rfl (fun ls hl => ?_)
  refine lv_iload hx hb dL_law_100 (lv_at hl 0 rfl) ?_
  refine lv_bipush (v := nI 20) hx hb dL_law_102 (by decide +kernel) ?_
  refine lv_ishr hx hb dL_law_104 ?_
  refine lv_bipush (v := nI 14) hx hb dL_law_105 (by decide +kernel) ?_
  refine nk_rd (W.runS (As := [.int (v >>> (nI 20 &&& 31)), .int (nI 14)]) (rest := []) ⟨hx, hb, hml, hown, hts⟩ (c_L_low l (v >>> (nI 20 &&& 31)) 14 (by omega) (by omega)) (va_cwS 2 hts gL_law_L_low rfl rfl rfl (by decide +kernel) ⟨Nat.le_of_ble_eq_true rfl, Nat.le_of_ble_eq_true rfl⟩) ⟨nk_P0.blind, fun U hU hW => ⟨rfl, trivial⟩⟩ rfl rfl hl.1 rfl (lv_room (Nat.le_of_ble_eq_true rfl)) dL_law_107 ⟨by show cells + 0 ≤ 125; omega, by show slots + 0 ≤ 1879; omega⟩) ?_
  refine W.eq (g2 := F0 m 110 ls [.int (nI (lwV (v >>> (nI 20 &&& 31)) 14))]) rfl ?_
  have hlw14 := lwV_lt (x := v >>> (nI 20 &&& 31)) (n := 14) (by decide)
  obtain ⟨q, hq⟩ : ∃ x : Nat, x = lwV (v >>> (nI 20 &&& 31)) 14 := ⟨_, rfl⟩
  refine nk_topi (y := nI q) (by rw [hq]) ?_
  refine lv_istore (lv' := [(8, .int (nI q)), (7, .int v), (0, .ref sb), (1, .ref h0), (2, .int (nI B)), (3, .int (nI E)), (4, .int (nI 1)), (5, .int (nI T)), (6, .int (nI n))]) hx hb dL_law_110 hl (by decide) rfl (fun ls hl => ?_)
  refine lv_iload_n hx hb dL_law_112 rfl (lv_at hl 4 rfl) ?_
  have kj299 : W p l e room_1 s m #[Value.ref sb] below meth c H locs (cells) (slots) Q (F0 m 299 ls []) := by
    refine lv_iload_n hx hb dL_law_299 rfl (lv_at hl 4 rfl) ?_
    have kj323 : W p l e room_1 s m #[Value.ref sb] below meth c H locs (cells) (slots) Q (F0 m 323 ls []) := by
      refine lv_iload_n hx hb dL_law_323 rfl (lv_at hl 4 rfl) ?_
      have kj415 : W p l e room_1 s m #[Value.ref sb] below meth c H locs (cells) (slots) Q (F0 m 415 ls []) := by
        refine lv_iload hx hb dL_law_415 (lv_at hl 0 rfl) ?_
        refine lv_bipush (v := nI 12) hx hb dL_law_417 (by decide +kernel) ?_
        refine nk_icmp_ge (tgt := 460) hx hb (by omega) (by omega) dL_law_419 (by decide) (fun c419 => ?_) (fun c419 => ?_)
        · exact lc_pass C0 hfl hK hA hbA hZ hc9 hs9 hL hSt hS (lv_sub hl [2, 3, 4, 5, 6, 7, 8, 1, 0] rfl) hT hn  kk
        · exact lc_setRate C0 hfl hK hA hbA hZ hc9 hs9 hL hSt hS (lv_sub hl [2, 3, 4, 5, 6, 7, 8, 1, 0] rfl) hT hn  kk
      refine nk_if_eq (tgt := 415) hx hb (by omega) dL_law_324 (by decide) (fun c324 => ?_) (fun c324 => ?_)
      · exact kj415
      · have hB1 : B = 1 := by omega
        refine lv_iload hx hb dL_law_327 (lv_at hl 0 rfl) ?_
        refine lv_bipush (v := nI 11) hx hb dL_law_329 (by decide +kernel) ?_
        refine nk_icmp_ge (tgt := 415) hx hb (by omega) (by omega) dL_law_331 (by decide) (fun c331 => ?_) (fun c331 => ?_)
        · exact kj415
        · refine lv_iload hx hb dL_law_334 (lv_at hl 1 rfl) ?_
          refine lv_iconst (v := nI 3) hx hb dL_law_336 (by decide +kernel) ?_
          refine nk_rd (W.runS (As := [.int v, .int (nI 3)]) (rest := []) ⟨hx, hb, hml, hown, hts⟩ (c_L_low l v 3 (by omega) (by omega)) (va_cwS 2 hts gL_law_L_low rfl rfl rfl (by decide +kernel) ⟨Nat.le_of_ble_eq_true rfl, Nat.le_of_ble_eq_true rfl⟩) ⟨nk_P0.blind, fun U hU hW => ⟨rfl, trivial⟩⟩ rfl rfl hl.1 rfl (lv_room (Nat.le_of_ble_eq_true rfl)) dL_law_337 ⟨by show cells + 0 ≤ 125; omega, by show slots + 0 ≤ 1879; omega⟩) ?_
          refine W.eq (g2 := F0 m 340 ls [.int (nI (lwV v 3))]) rfl ?_
          refine nk_if_ne (tgt := 415) hx hb (lwV_i (by decide) (by decide)) dL_law_340 (by decide) (fun c340 => ?_) (fun c340 => ?_)
          · exact kj415
          · exact lc_end C0 hfl hK hA hbA hZ hc9 hs9 hL hSt hS (lv_sub hl [2, 3, 4, 5, 6, 7, 8, 1, 0] rfl) hT hn hB1 kk
    refine nk_if_eq (tgt := 323) hx hb (by omega) dL_law_300 (by decide) (fun c300 => ?_) (fun c300 => ?_)
    · exact kj323
    · have hB1 : B = 1 := by omega
      refine lv_iload hx hb dL_law_303 (lv_at hl 0 rfl) ?_
      refine lv_bipush (v := nI 10) hx hb dL_law_305 (by decide +kernel) ?_
      refine nk_icmp_ge (tgt := 323) hx hb (by omega) (by omega) dL_law_307 (by decide) (fun c307 => ?_) (fun c307 => ?_)
      · exact kj323
      · exact lc_loan C0 hfl hK hA hbA hZ hc9 hs9 hL hSt hS (lv_sub hl [2, 3, 4, 5, 6, 7, 8, 1, 0] rfl) hT hn hB1 (by omega) kk
  refine nk_if_ne (tgt := 299) hx hb (by omega) dL_law_113 (by decide) (fun c113 => ?_) (fun c113 => ?_)
  · exact kj299
  · refine lv_iload hx hb dL_law_116 (lv_at hl 0 rfl) ?_
    refine lv_bipush (v := nI 9) hx hb dL_law_118 (by decide +kernel) ?_
    refine nk_icmp_ge (tgt := 299) hx hb (by omega) (by omega) dL_law_120 (by decide) (fun c120 => ?_) (fun c120 => ?_)
    · exact kj299
    · exact lc_begin C0 hfl hK hA hbA hZ hc9 hs9 hL hSt hS (lv_sub hl [2, 3, 4, 5, 6, 7, 8, 1, 0] rfl) hT hn (by omega) kk
theorem nI_1' : (nI 1 : Int32) = 1 := by decide +kernel
set_option maxHeartbeats 8000000 in
set_option maxRecDepth 100000 in
/-- the law's loop: at its head, n turns done -/
theorem law_loop {p : Program} {l : Launch} {e : Env} {s : State} {m : MethodId} {below : List Frame} {meth : Method} {c : Code} {sb L : Nat} {xs : Nat → Int32} {D : va_G} {h0 h1 h2 h3 h4 h5 h6 h7 h8 h9 : Nat} {cI cJ : ClassId} {T : Nat}
    (C0 : lw_At p s m meth c sb L xs) (hfl : l.stackTraces = false) (hK : va_K D vwCl (tX cI cJ) s) (hZ : nk_Z (fun q : Nat => s.heap.size ≤ q) s s.heap) (hL : L ≤ 260) (hT : T ≤ 54) :
    ∀ (k n : Nat), n ≤ T → T + 1 ≤ n + k → ∀ (B E : Nat) (H : Heap) (locs : List Loc) (ls : Array Slot), nk_St D (fun q : Nat => s.heap.size ≤ q) h0 h1 h2 h3 h4 h5 h6 h7 h8 h9 cI cJ B E H → va_S (fun q : Nat => s.heap.size ≤ q) s.heap H locs → lv_has ls 15 [(0, .ref sb), (1, .ref h0), (2, .int (nI B)), (3, .int (nI E)), (4, .int (nI 1)), (5, .int (nI T)), (6, .int (nI n))] → W p l e room_1 s m #[Value.ref sb] below meth c H locs (11 + 2 * n) (987 + 12 * n) (lw_Z below #[Value.ref sb] s) (F0 m 78 ls []) := by
  obtain ⟨hx, hb, hr, hml, hown, hts0, hX, hbl, hlocks, hgv⟩ := id C0
  have hbA : ¬ (fun q : Nat => s.heap.size ≤ q) sb := Nat.not_le.mpr hbl
  intro k
  induction k with
  | zero =>
    intro n u1 u2
    exfalso; omega
  | succ k ih =>
    intro n u1 u2 B E H locs ls hSt hS hl
    refine lv_iload hx hb dL_law_78 (lv_at hl 6 rfl) ?_
    refine lv_iload hx hb dL_law_80 (lv_at hl 5 rfl) ?_
    refine nk_icmp_ge (tgt := 608) hx hb (by omega) (by omega) dL_law_82 (by decide) (fun c82 => ?_) (fun c82 => ?_)
    · refine lv_iload hx hb dL_law_608 (lv_at hl 4 rfl) ?_
      refine nk_topi (y := 1) nI_1' ?_
      refine va_forget (fun q hq => hS.2.2 q hq) ?_
      refine W.widen (k := 125) (n := 1879) (by omega) (by omega) ?_
      exact lw_ret hx hb hr hlocks dL_law_610
    · refine lv_iload hx hb dL_law_85 (lv_at hl 4 rfl) ?_
      refine nk_if_eq (tgt := 608) hx hb (by omega) dL_law_87 (by decide) (fun c87 => ?_) (fun c87 => ?_)
      · exfalso; omega
      · refine lc_step (B := B) (E := E) (T := T) (n := n) (q := 0) (v := 0) C0 hfl hK (fun _ h => h) hbA hZ (by omega) (by omega) hL hSt hS hl hT c82 (fun H1 locs1 ls1 B1 E1 hSt1 hS1 hl1 => ?_)
        refine lc_post (q := 0) (v := 0) C0 hfl hK (fun _ h => h) hbA hZ (by omega) (by omega) hL hSt1 hS1 hl1 hT c82 (fun H2 locs2 ls2 hSt2 hS2 hl2 => ?_)
        refine W.widen (k := 11 + 2 * (n + 1)) (n := 987 + 12 * (n + 1)) (by omega) (by omega) ?_
        exact ih (n + 1) (by omega) (by omega) B1 E1 H2 locs2 ls2 hSt2 hS2 hl2
set_option maxHeartbeats 8000000 in
set_option maxRecDepth 100000 in
/-- what a throw needs holds at the start -/
theorem law_Z {p : Program} {s : State} {m : MethodId} {meth : Method} {c : Code} {sb L : Nat} {xs : Nat → Int32} (C0 : lw_At p s m meth c sb L xs) : nk_Z (fun q : Nat => s.heap.size ≤ q) s s.heap := by
  obtain ⟨hx, hb, hr, hml, hown, hts, hX, hbl, hlocks, hgv⟩ := id C0
  have hs := flat_of_before _ hgv
  have hA : ∀ a : Nat, a < s.heap.size → ¬ (fun q : Nat => s.heap.size ≤ q) a := fun a h => Nat.not_le.mpr h
  obtain ⟨a65, hr65⟩ : ∃ a, vk_R RX0 65 "a loan was begun, or the amount is above the greatest loan" a s := by
    obtain ⟨a, c9, cA, kA, q1, -⟩ := Cond.exactly_spec (args := #[Value.ref sb]) (first := s) (o := none) (s := s) (idx := []) (t := Term.string RX0 65) (cls := "java/lang/String") (hs (.exactly (.string RX0 65) "java/lang/String") (by decide +kernel))
    exact ⟨a, vk_R.of (hts (.stringRef RX0 65 "a loan was begun, or the amount is above the greatest loan") (by decide +kernel)) q1⟩
  obtain ⟨a92, hr92⟩ : ∃ a, vk_R RX0 92 "the amount is above the room, or there are too many drawings" a s := by
    obtain ⟨a, c9, cA, kA, q1, -⟩ := Cond.exactly_spec (args := #[Value.ref sb]) (first := s) (o := none) (s := s) (idx := []) (t := Term.string RX0 92) (cls := "java/lang/String") (hs (.exactly (.string RX0 92) "java/lang/String") (by decide +kernel))
    exact ⟨a, vk_R.of (hts (.stringRef RX0 92 "the amount is above the room, or there are too many drawings") (by decide +kernel)) q1⟩
  obtain ⟨a101, hr101⟩ : ∃ a, vk_R RX0 101 "the amount is above the debt, or there are too many payments" a s := by
    obtain ⟨a, c9, cA, kA, q1, -⟩ := Cond.exactly_spec (args := #[Value.ref sb]) (first := s) (o := none) (s := s) (idx := []) (t := Term.string RX0 101) (cls := "java/lang/String") (hs (.exactly (.string RX0 101) "java/lang/String") (by decide +kernel))
    exact ⟨a, vk_R.of (hts (.stringRef RX0 101 "the amount is above the debt, or there are too many payments") (by decide +kernel)) q1⟩
  obtain ⟨a111, hr111⟩ : ∃ a, vk_R RX0 111 "the day would be above the last one" a s := by
    obtain ⟨a, c9, cA, kA, q1, -⟩ := Cond.exactly_spec (args := #[Value.ref sb]) (first := s) (o := none) (s := s) (idx := []) (t := Term.string RX0 111) (cls := "java/lang/String") (hs (.exactly (.string RX0 111) "java/lang/String") (by decide +kernel))
    exact ⟨a, vk_R.of (hts (.stringRef RX0 111 "the day would be above the last one") (by decide +kernel)) q1⟩
  obtain ⟨a125, hr125⟩ : ∃ a, vk_R RX0 125 "there is no such life" a s := by
    obtain ⟨a, c9, cA, kA, q1, -⟩ := Cond.exactly_spec (args := #[Value.ref sb]) (first := s) (o := none) (s := s) (idx := []) (t := Term.string RX0 125) (cls := "java/lang/String") (hs (.exactly (.string RX0 125) "java/lang/String") (by decide +kernel))
    exact ⟨a, vk_R.of (hts (.stringRef RX0 125 "there is no such life") (by decide +kernel)) q1⟩
  obtain ⟨a128, hr128⟩ : ∃ a, vk_R RX0 128 "the life has ended" a s := by
    obtain ⟨a, c9, cA, kA, q1, -⟩ := Cond.exactly_spec (args := #[Value.ref sb]) (first := s) (o := none) (s := s) (idx := []) (t := Term.string RX0 128) (cls := "java/lang/String") (hs (.exactly (.string RX0 128) "java/lang/String") (by decide +kernel))
    exact ⟨a, vk_R.of (hts (.stringRef RX0 128 "the life has ended") (by decide +kernel)) q1⟩
  obtain ⟨a134, hr134⟩ : ∃ a, vk_R RX0 134 "there is no loan" a s := by
    obtain ⟨a, c9, cA, kA, q1, -⟩ := Cond.exactly_spec (args := #[Value.ref sb]) (first := s) (o := none) (s := s) (idx := []) (t := Term.string RX0 134) (cls := "java/lang/String") (hs (.exactly (.string RX0 134) "java/lang/String") (by decide +kernel))
    exact ⟨a, vk_R.of (hts (.stringRef RX0 134 "there is no loan") (by decide +kernel)) q1⟩
  obtain ⟨a136, hr136⟩ : ∃ a, vk_R RX0 136 "there are too many payments" a s := by
    obtain ⟨a, c9, cA, kA, q1, -⟩ := Cond.exactly_spec (args := #[Value.ref sb]) (first := s) (o := none) (s := s) (idx := []) (t := Term.string RX0 136) (cls := "java/lang/String") (hs (.exactly (.string RX0 136) "java/lang/String") (by decide +kernel))
    exact ⟨a, vk_R.of (hts (.stringRef RX0 136 "there are too many payments") (by decide +kernel)) q1⟩
  obtain ⟨a145, hr145⟩ : ∃ a, vk_R RX0 145 "there is no such drawing" a s := by
    obtain ⟨a, c9, cA, kA, q1, -⟩ := Cond.exactly_spec (args := #[Value.ref sb]) (first := s) (o := none) (s := s) (idx := []) (t := Term.string RX0 145) (cls := "java/lang/String") (hs (.exactly (.string RX0 145) "java/lang/String") (by decide +kernel))
    exact ⟨a, vk_R.of (hts (.stringRef RX0 145 "there is no such drawing") (by decide +kernel)) q1⟩
  obtain ⟨a167, hr167⟩ : ∃ a, vk_R RX0 167 "a number is out of range" a s := by
    obtain ⟨a, c9, cA, kA, q1, -⟩ := Cond.exactly_spec (args := #[Value.ref sb]) (first := s) (o := none) (s := s) (idx := []) (t := Term.string RX0 167) (cls := "java/lang/String") (hs (.exactly (.string RX0 167) "java/lang/String") (by decide +kernel))
    exact ⟨a, vk_R.of (hts (.stringRef RX0 167 "a number is out of range") (by decide +kernel)) q1⟩
  obtain ⟨a170, hr170⟩ : ∃ a, vk_R RX0 170 "there is no loan, or it has ended" a s := by
    obtain ⟨a, c9, cA, kA, q1, -⟩ := Cond.exactly_spec (args := #[Value.ref sb]) (first := s) (o := none) (s := s) (idx := []) (t := Term.string RX0 170) (cls := "java/lang/String") (hs (.exactly (.string RX0 170) "java/lang/String") (by decide +kernel))
    exact ⟨a, vk_R.of (hts (.stringRef RX0 170 "there is no loan, or it has ended") (by decide +kernel)) q1⟩
  refine ⟨⟨vx_Zqof (hts (.laysStatic Bundle.tN "UNASSIGNED_STACK" Bundle.steD) (by decide +kernel)) (hts (.initialized Bundle.tN) (by decide +kernel)) (hs (.isRef (.static Bundle.tN "UNASSIGNED_STACK" Bundle.steD)) (by decide +kernel)) hA, vx_Zqof (hts (.laysStatic Bundle.tN "SUPPRESSED_SENTINEL" Bundle.listD) (by decide +kernel)) (hts (.initialized Bundle.tN) (by decide +kernel)) (hs (.isRef (.static Bundle.tN "SUPPRESSED_SENTINEL" Bundle.listD)) (by decide +kernel)) hA⟩, ⟨va_Nw.of rfl (hts (.castable RIA RIA) (by decide +kernel)), va_Nw.of rfl (hts (.castable RIS RIS) (by decide +kernel)), va_Nw.of rfl (hts (.castable RIO RIO) (by decide +kernel)), va_Nc.of (hs (.not (.castable RIA RIS)) (by decide +kernel)), va_Nc.of (hs (.not (.castable RIO RIS)) (by decide +kernel))⟩, ⟨va_Nw.of rfl (hts (.declares (Bundle.initS "java/lang/RuntimeException")) (by decide +kernel)), va_Nw.of rfl (hts (.declares (Bundle.initS "java/lang/Exception")) (by decide +kernel)), va_Nw.of rfl (hts (.declares (Bundle.initS Bundle.tN)) (by decide +kernel))⟩, fun n => if n = 65 then a65 else if n = 92 then a92 else if n = 101 then a101 else if n = 111 then a111 else if n = 125 then a125 else if n = 128 then a128 else if n = 134 then a134 else if n = 136 then a136 else if n = 145 then a145 else if n = 167 then a167 else if n = 170 then a170 else 0, hr65, hr92, hr101, hr111, hr125, hr128, hr134, hr136, hr145, hr167, hr170⟩
set_option maxHeartbeats 8000000 in
set_option maxRecDepth 100000 in
theorem lc_entry {p : Program} {l : Launch} {e : Env} {s : State} {m : MethodId} {below : List Frame} {meth : Method} {c : Code} {sb L : Nat} {xs : Nat → Int32} {D : va_G} {h0 h1 h2 h3 h4 h5 h6 h7 h8 h9 : Nat} {cI cJ : ClassId} {H : Heap} {locs : List Loc} {cells slots : Nat} {Q : State → Prop} {ls : Array Slot} {A : Nat → Prop}
    (C0 : lw_At p s m meth c sb L xs) (hfl : l.stackTraces = false) (hK : va_K D vwCl (tX cI cJ) s) (hA : ∀ q : Nat, s.heap.size ≤ q → A q) (hbA : ¬ A sb) (hZ : nk_Z A s s.heap) (hc9 : cells + 2 ≤ 125) (hs9 : slots + 12 ≤ 1879) (hL : L ≤ 260) (hP : va_P D vwCl (wX h0 h1 h2 h3 h4 h5 h6 h7 h8 h9 cI cJ 0 500 0 0 0 0 0 0 (fun _ => 0) (fun _ => 1) (fun _ => 0) (fun _ => 0) (fun _ => 0) (fun _ => 0) (fun _ => 0) (fun _ => 0) (fun _ => 0)) H) (hD : va_D A (wX h0 h1 h2 h3 h4 h5 h6 h7 h8 h9 cI cJ 0 500 0 0 0 0 0 0 (fun _ => 0) (fun _ => 1) (fun _ => 0) (fun _ => 0) (fun _ => 0) (fun _ => 0) (fun _ => 0) (fun _ => 0) (fun _ => 0))) (hS : va_S A s.heap H locs) (hl : lv_has ls 15 [(1, .ref h0), (0, .ref sb)])
    (kk : ∀ (H1 : Heap) (locs1 : List Loc) (ls1 : Array Slot) (T : Nat), T ≤ 54 → nk_St D A h0 h1 h2 h3 h4 h5 h6 h7 h8 h9 cI cJ 0 0 H1 → va_S A s.heap H1 locs1 → lv_has ls1 15 [(0, .ref sb), (1, .ref h0), (2, .int (nI 0)), (3, .int (nI 0)), (4, .int (nI 1)), (5, .int (nI T)), (6, .int (nI 0))] → W p l e room_1 s m #[Value.ref sb] below meth c H1 locs1 (cells + 1) (slots + 6) Q (F0 m 78 ls1 [])) : W p l e room_1 s m #[Value.ref sb] below meth c H locs cells slots Q (F0 m 8 ls []) := by
  obtain ⟨hx, hb, hr, hml, hown, hts0, hX, hbl, hlocks, hgv⟩ := id C0
  have hts : ∀ w ∈ wsL_law, w.before #[Value.ref sb] s = true := fun w h => hts0 w (wsL_law_in w h)
  have hown : s.vm.findClass RL = some m.cls := hown
  obtain ⟨hlc, hd, hk, hpn, hbg, hw, hrm, he, hed, hfa, ham, hpd, hpd2, hpt, hbs, hb9, hrt, hdd, hroll, hh1, hh2, hh3, htp, hsa, hk0, he2, he2d, hga, hgb, hgb2, hpi, hdr, hpa1, he20, he21, hk0m, he28, hgbz, halE, hmxE, hlsE⟩ := Inv_f Inv_0
  have hbs9 := hbs
  have hbs : sm _ _ < 4611686018427387904 := Nat.lt_trans hbs9 (by decide)
  refine lv_iconst (v := nI 0) hx hb dL_law_8 (by decide +kernel) ?_
  refine lv_istore_n (lv' := [(2, .int (nI 0)), (1, .ref h0), (0, .ref sb)]) hx hb dL_law_9 rfl hl (by decide) rfl (fun ls hl => ?_)
  refine lv_iconst (v := nI 0) hx hb dL_law_10 (by decide +kernel) ?_
  refine lv_istore_n (lv' := [(3, .int (nI 0)), (2, .int (nI 0)), (1, .ref h0), (0, .ref sb)]) hx hb dL_law_11 rfl hl (by decide) rfl (fun ls hl => ?_)
  refine lv_aload_n hx hb dL_law_12 rfl (lv_at hl 2 rfl) ?_
  have hZH := hZ.kept hS.2.1
  have hFc := va_free (wc := wX h0 h1 h2 h3 h4 h5 h6 h7 h8 h9 cI cJ 0 500 0 0 0 0 0 0 (fun _ => 0) (fun _ => 1) (fun _ => 0) (fun _ => 0) (fun _ => 0) (fun _ => 0) (fun _ => 0) (fun _ => 0) (fun _ => 0)) hD hS hA [0, 1, 2, 3, 4, 5, 6, 7, 8, 9] rfl
  refine nk_rdt (mc := 1) (ms := 6) (W.runS (As := [.ref h0]) (rest := []) ⟨hx, hb, hml, hown, hts⟩ (c_L_holds l hfl D h0 h1 h2 h3 h4 h5 h6 h7 h8 h9 cI cJ 0 500 0 0 0 0 0 0 (fun _ => 0) (fun _ => 1) (fun _ => 0) (fun _ => 0) (fun _ => 0) (fun _ => 0) (fun _ => 0) (fun _ => 0) (fun _ => 0) H.size 0 0 0 0 (fun _ => 0) (fun _ => 0) Inv_0) (va_cwS 1 hts gL_law_L_holds rfl rfl rfl (by decide +kernel) ⟨Nat.le_of_ble_eq_true rfl, Nat.le_of_ble_eq_true rfl⟩) ⟨nk_Px.blind, fun U hU hW => ⟨rfl, by rw [hU], by rw [hU]; exact hP, va_K.moved hW.alike hK, hD.weaken (fun _ _ _ _ => trivial), by rw [hU]; exact nk_Z.go hZH hW (fun q h => hFc q h)⟩⟩ rfl rfl hl.1 rfl (lv_room (Nat.le_of_ble_eq_true rfl)) dL_law_13 ⟨by show cells + 1 ≤ 125; omega, by show slots + 6 ≤ 1879; omega⟩) ?_
  refine W.eq (g2 := F0 m 16 ls [.int (nI 1)]) rfl ?_
  refine nk_if_eq (tgt := 58) hx hb (by omega) dL_law_16 (by decide) (fun c16 => ?_) (fun c16 => ?_)
  · exfalso; omega
  · refine lv_aload_n hx hb dL_law_19 rfl (lv_at hl 2 rfl) ?_
    refine nk_rd (W.runV (As := []) (rest := []) ⟨hx, hb, hml, hown, hts⟩ (c_X0_age l D h0 h1 h2 h3 h4 h5 h6 h7 h8 h9 cI cJ 0 500 0 0 0 0 0 0 (fun _ => 0) (fun _ => 1) (fun _ => 0) (fun _ => 0) (fun _ => 0) (fun _ => 0) (fun _ => 0) (fun _ => 0) (fun _ => 0) hlc he hfa hd) (cwV 0 hts gL_law_X0_age rfl rfl rfl (by decide +kernel) ⟨Nat.le_of_ble_eq_true rfl, Nat.le_of_ble_eq_true rfl⟩) ⟨nk_Pr.blind, va_recv hK hP (ci := 0) (q0 := 0) rfl rfl, fun U hU hW => ⟨rfl, by rw [hU]; exact hP, va_K.moved hW.alike hK⟩⟩ rfl rfl hl.1 rfl (lv_room (Nat.le_of_ble_eq_true rfl)) dL_law_20 ⟨by show cells + 0 ≤ 125; omega, by show slots + 0 ≤ 1879; omega⟩) ?_
    refine W.eq (g2 := F0 m 23 ls [.int (nI (agE (fun _ => 0) (fun _ => 1) 0 (0 / 365)) - 1)]) rfl ?_
    refine lv_iconst (v := -1) hx hb dL_law_23 (by decide) ?_
    have hae : agE (fun _ => 0) (fun _ => 1) 0 (0 / 365) = 0 := agE_end rfl
    refine nk_ecmp_ne (tgt := 58) hx hb (by omega) dL_law_24 (by decide) (fun c24 => ?_) (fun c24 => ?_)
    · exfalso; omega
    · refine lv_aload_n hx hb dL_law_27 rfl (lv_at hl 2 rfl) ?_
      refine nk_rd (W.runV (As := []) (rest := []) ⟨hx, hb, hml, hown, hts⟩ (c_X0_worth l D h0 h1 h2 h3 h4 h5 h6 h7 h8 h9 cI cJ 0 500 0 0 0 0 0 0 (fun _ => 0) (fun _ => 1) (fun _ => 0) (fun _ => 0) (fun _ => 0) (fun _ => 0) (fun _ => 0) (fun _ => 0) (fun _ => 0)) (cwV 0 hts gL_law_X0_worth rfl rfl rfl (by decide +kernel) ⟨Nat.le_of_ble_eq_true rfl, Nat.le_of_ble_eq_true rfl⟩) ⟨nk_Pr.blind, va_recv hK hP (ci := 0) (q0 := 0) rfl rfl, fun U hU hW => ⟨rfl, by rw [hU]; exact hP, va_K.moved hW.alike hK⟩⟩ rfl rfl hl.1 rfl (lv_room (Nat.le_of_ble_eq_true rfl)) dL_law_28 ⟨by show cells + 0 ≤ 125; omega, by show slots + 0 ≤ 1879; omega⟩) ?_
      refine W.eq (g2 := F0 m 31 ls [.int (nI 0)]) rfl ?_
      refine nk_if_ne (tgt := 58) hx hb (by omega) dL_law_31 (by decide) (fun c31 => ?_) (fun c31 => ?_)
      · exfalso; omega
      · refine lv_aload_n hx hb dL_law_34 rfl (lv_at hl 2 rfl) ?_
        refine lv_sipush (v := nI 500) hx hb dL_law_35 (by decide +kernel) ?_
        have hZH := hZ.kept hS.2.1
        have hFc := va_free (wc := wX h0 h1 h2 h3 h4 h5 h6 h7 h8 h9 cI cJ 0 500 0 0 0 0 0 0 (fun _ => 0) (fun _ => 1) (fun _ => 0) (fun _ => 0) (fun _ => 0) (fun _ => 0) (fun _ => 0) (fun _ => 0) (fun _ => 0)) hD hS hA [0, 1, 2, 3, 4, 5, 6, 7, 8, 9] rfl
        refine nk_icallx (wr := []) (mc := 1) (ms := 6) (vx_runV (As := [.int (nI 500)]) (rest := []) ⟨hx, hb, hml, hown, hts⟩ (c_X0_setRate l hfl D h0 h1 h2 h3 h4 h5 h6 h7 h8 h9 cI cJ 0 500 0 0 0 0 0 0 (fun _ => 0) (fun _ => 1) (fun _ => 0) (fun _ => 0) (fun _ => 0) (fun _ => 0) (fun _ => 0) (fun _ => 0) (fun _ => 0) H.size (nI 500) ((500 : Nat) : Int) 500 (nI_toInt (by omega)) (fun _ => ⟨rfl, by omega⟩)) (cwV 1 hts gL_law_X0_setRate rfl rfl rfl (by decide +kernel) ⟨Nat.le_of_ble_eq_true rfl, Nat.le_of_ble_eq_true rfl⟩) ⟨nk_Px.blind, va_recv hK hP (ci := 0) (q0 := 0) rfl rfl, fun U hU hW => ⟨rfl, by rw [hU], by rw [hU]; exact hP, va_K.moved hW.alike hK, hD.weaken (fun _ _ _ _ => trivial), by rw [hU]; exact nk_Z.go hZH hW (fun q h => hFc q h)⟩⟩ rfl rfl hl.1 rfl (lv_room (Nat.le_of_ble_eq_true rfl)) dL_law_38 ⟨by show cells + 1 ≤ 125; omega, by show slots + 6 ≤ 1879; omega⟩) hP hD hS hA [0, 1, 2, 3, 4, 5, 6, 7, 8, 9] [] rfl rfl rfl (by decide) (fun E9 ce q9 H9 locs9 hE hz9 hk9 hP9 hS9 hce hcv hcl => ?_) (fun r38 w1 H locs hw38 hP hD hS hk9 => ?_)
        · exfalso; have h9 := hE.2; omega
        rcases hw38 with ⟨x1, rfl, rfl⟩
        · have hP : va_P D vwCl (wX h0 h1 h2 h3 h4 h5 h6 h7 h8 h9 cI cJ 0 500 0 0 0 0 0 0 (fun _ => 0) (fun _ => 1) (fun _ => 0) (fun _ => 0) (fun _ => 0) (fun _ => 0) (fun _ => 0) (fun _ => 0) (fun _ => 0)) H := hP
          have hD : va_D A (wX h0 h1 h2 h3 h4 h5 h6 h7 h8 h9 cI cJ 0 500 0 0 0 0 0 0 (fun _ => 0) (fun _ => 1) (fun _ => 0) (fun _ => 0) (fun _ => 0) (fun _ => 0) (fun _ => 0) (fun _ => 0) (fun _ => 0)) := hD
          refine lv_sipush (v := nI 500) hx hb dL_law_41 (by decide +kernel) ?_
          refine nk_icmp_ne (tgt := 58) hx hb (by omega) (by omega) dL_law_44 (by decide) (fun c44 => ?_) (fun c44 => ?_)
          · exfalso; omega
          · refine lv_aload_n hx hb dL_law_47 rfl (lv_at hl 2 rfl) ?_
            refine nk_rd (W.runV (As := []) (rest := []) ⟨hx, hb, hml, hown, hts⟩ (c_X0_hasEnded l D h0 h1 h2 h3 h4 h5 h6 h7 h8 h9 cI cJ 0 500 0 0 0 0 0 0 (fun _ => 0) (fun _ => 1) (fun _ => 0) (fun _ => 0) (fun _ => 0) (fun _ => 0) (fun _ => 0) (fun _ => 0) (fun _ => 0) hlc he) (cwV 0 hts gL_law_X0_hasEnded rfl rfl rfl (by decide +kernel) ⟨Nat.le_of_ble_eq_true rfl, Nat.le_of_ble_eq_true rfl⟩) ⟨nk_Pr.blind, va_recv hK hP (ci := 0) (q0 := 0) rfl rfl, fun U hU hW => ⟨rfl, by rw [hU]; exact hP, va_K.moved hW.alike hK⟩⟩ rfl rfl hl.1 rfl (lv_room (Nat.le_of_ble_eq_true rfl)) dL_law_48 ⟨by show cells + 1 + 0 ≤ 125; omega, by show slots + 6 + 0 ≤ 1879; omega⟩) ?_
            refine W.eq (g2 := F0 m 51 ls [.int (nI (if 0 < 0 ∧ alive (fun _ => 1) 0 = 0 then 1 else 0))]) rfl ?_
            refine nk_bif_ne (tgt := 58) hx hb dL_law_51 (by decide) (fun c51 => ?_) (fun c51 => ?_)
            · exact absurd c51.1 (by decide)
            · refine lv_iconst (v := nI 1) hx hb dL_law_54 (by decide +kernel) ?_
              refine lv_goto (tgt := 59) hx hb dL_law_55 (by decide) ?_
              refine lv_istore (lv' := [(4, .int (nI 1)), (3, .int (nI 0)), (2, .int (nI 0)), (1, .ref h0), (0, .ref sb)]) hx hb dL_law_59 hl (by decide) rfl (fun ls hl => ?_)
              refine lv_iconst (v := nI 5) hx hb dL_law_61 (by decide +kernel) ?_
              refine lv_aload_n hx hb dL_law_62 rfl (lv_at hl 4 rfl) ?_
              refine lv_iconst (v := nI 0) hx hb dL_law_63 (by decide +kernel) ?_
              refine nk_rd (W.runS (As := [.ref sb, .int (nI 0)]) (rest := [.int (nI 5)]) ⟨hx, hb, hml, hown, hts⟩ (c_L_cell l sb L xs 0 hL (by omega)) (va_cwS 2 hts gL_law_L_cell rfl rfl rfl (by decide +kernel) ⟨Nat.le_of_ble_eq_true rfl, Nat.le_of_ble_eq_true rfl⟩) ⟨nk_Psc.blind, fun U hU hW => ⟨rfl, by rw [hU]; exact va_X.moved hW.alike (hX.kept (hS.2.1 _ hbl hbA)), by rw [hU]; exact Nat.lt_of_lt_of_le hbl hS.1⟩⟩ rfl rfl hl.1 rfl (lv_room (Nat.le_of_ble_eq_true rfl)) dL_law_64 ⟨by show cells + 1 + 0 ≤ 125; omega, by show slots + 6 + 0 ≤ 1879; omega⟩) ?_
              refine W.eq (g2 := F0 m 67 ls [.int (cellV L xs 0), .int (nI 5)]) rfl ?_
              refine lv_bipush (v := nI 50) hx hb dL_law_67 (by decide +kernel) ?_
              refine nk_rd (W.runS (As := [.int (cellV L xs 0), .int (nI 50)]) (rest := [.int (nI 5)]) ⟨hx, hb, hml, hown, hts⟩ (c_L_low l (cellV L xs 0) 50 (by omega) (by omega)) (va_cwS 2 hts gL_law_L_low rfl rfl rfl (by decide +kernel) ⟨Nat.le_of_ble_eq_true rfl, Nat.le_of_ble_eq_true rfl⟩) ⟨nk_P0.blind, fun U hU hW => ⟨rfl, trivial⟩⟩ rfl rfl hl.1 rfl (lv_room (Nat.le_of_ble_eq_true rfl)) dL_law_69 ⟨by show cells + 1 + 0 ≤ 125; omega, by show slots + 6 + 0 ≤ 1879; omega⟩) ?_
              refine W.eq (g2 := F0 m 72 ls [.int (nI (lwV (cellV L xs 0) 50)), .int (nI 5)]) rfl ?_
              refine nk_iadd hx hb dL_law_72 ?_
              have hlw := lwV_lt (x := cellV L xs 0) (n := 50) (by decide)
              obtain ⟨T, hT⟩ : ∃ x : Nat, x = 5 + lwV (cellV L xs 0) 50 := ⟨_, rfl⟩
              refine nk_topi (y := nI T) (by rw [hT]) ?_
              refine lv_istore (lv' := [(5, .int (nI T)), (4, .int (nI 1)), (3, .int (nI 0)), (2, .int (nI 0)), (1, .ref h0), (0, .ref sb)]) hx hb dL_law_73 hl (by decide) rfl (fun ls hl => ?_)
              refine lv_iconst (v := nI 0) hx hb dL_law_75 (by decide +kernel) ?_
              refine lv_istore (lv' := [(6, .int (nI 0)), (5, .int (nI T)), (4, .int (nI 1)), (3, .int (nI 0)), (2, .int (nI 0)), (1, .ref h0), (0, .ref sb)]) hx hb dL_law_76 hl (by decide) rfl (fun ls hl => ?_)
              refine W.widen (k := cells + 1) (n := slots + 6) (by omega) (by omega) ?_
              exact kk _ _ _ T (by omega) ⟨_, _, _, _, _, _, _, _, _, _, _, _, _, _, _, _, _, _, _, _, _, _, _, Inv_0, (fun _ => rfl), ⟨by omega, by decide, by decide, fun z => absurd z (by decide)⟩, hP, hD⟩ hS (lv_sub hl [6, 5, 4, 3, 2, 1, 0] rfl)
set_option maxHeartbeats 8000000 in
set_option maxRecDepth 100000 in
/-- THE LAW, from its entry -/
theorem whole_start {p : Program} {e : Env} {s : State} {m : MethodId} {below : List Frame} {meth : Method} {c : Code} (l : Launch) (hflags : l.flags = flags0) {b L : Nat} {xs : Nat → Int32} (hL : L ≤ 260) (C0 : lw_At p s m meth c b L xs) : W p l e room_1 s m #[Value.ref b] below meth c s.heap [] 0 0 (lw_Z below #[Value.ref b] s) (entryFrame m ([Value.ref b] : List Value).toArray 15) := by
  have hfl : l.stackTraces = false := by unfold Launch.stackTraces; rw [hflags]; decide +kernel
  have hZ := law_Z C0
  obtain ⟨hx, hb, hr, hml, hown, hts0, hX, hbl, hlocks, hgv⟩ := id C0
  have hts : ∀ w ∈ wsL_law, w.before #[Value.ref b] s = true := fun w h => hts0 w (wsL_law_in w h)
  have hown : s.vm.findClass RL = some m.cls := hown
  have hA : ∀ q : Nat, s.heap.size ≤ q → (fun q : Nat => s.heap.size ≤ q) q := fun _ h => h
  have hbA : ¬ (fun q : Nat => s.heap.size ≤ q) b := Nat.not_le.mpr hbl
  obtain ⟨k0, iS0, hKn0⟩ := u_known (C := RX0) (T := TX0) (N := 17) (n := 17) hts0 inX0 (hts0 (.instantiable RX0 17) (by decide +kernel))
  obtain ⟨D, hKc⟩ : ∃ (D : va_G), ∀ (k : Nat) (q : vw_C), vwCl[k]? = some q → u_Kn s q.1 q.2.1 q.2.2 (D.1 k) (D.2 k) := by
    refine ⟨(fun _ => k0, fun _ => iS0), ?_⟩
    intro k q hq
    match k, hq with
    | 0, hq => cases hq; exact hKn0
    | k + 1, hq => simp [vwCl] at hq
  have hS : va_S (fun q : Nat => s.heap.size ≤ q) s.heap s.heap [] := va_S.rf
  have hK : va_K D vwCl [] s := ⟨hKc, fun k q h => by simp at h⟩
  have hP : va_P D vwCl [] s.heap := fun k q h => by simp at h
  have hD : va_D (fun q : Nat => s.heap.size ≤ q) [] := ⟨fun i j p q h => by simp at h, fun k q h => by simp at h⟩
  have hl := lv_entry ([.ref b]) (n := 15) (Nat.le_of_ble_eq_true rfl)
  rw [lg_entry_eq]
  generalize (lg_sl ([.ref b]) ++ List.replicate (15 - (lg_sl ([.ref b])).length) Slot.unset).toArray = ls at hl ⊢
  have hl : lv_has ls 15 [(0, .ref b)] := hl
  refine va_new (ci := 0) (fs := [.int (nI 0), .int (nI 0), .int (nI 0), .null, .null, .int (nI 0), .int (nI 0), .int (nI 0), .int (nI 0), .null, .null, .null, .null, .int (nI 0), .null, .null, .null]) (C := RX0) (T := TX0) (N := 17) hx hb hts0 inX0 tyX0 tyX0_ok hown (hts0 (.classLink RL 10 RX0) (by decide +kernel)) (hts0 (.instantiable RX0 17) (by decide +kernel)) (hts0 (.initialized RX0) (by decide +kernel)) hK hP hD hS hA rfl (fun j hj => by rcases (show j = 0 ∨ j = 1 ∨ j = 2 ∨ j = 3 ∨ j = 4 ∨ j = 5 ∨ j = 6 ∨ j = 7 ∨ j = 8 ∨ j = 9 ∨ j = 10 ∨ j = 11 ∨ j = 12 ∨ j = 13 ∨ j = 14 ∨ j = 15 ∨ j = 16 by omega) with rfl | rfl | rfl | rfl | rfl | rfl | rfl | rfl | rfl | rfl | rfl | rfl | rfl | rfl | rfl | rfl | rfl <;> rfl) (Nat.le_of_ble_eq_true rfl) (Nat.le_of_ble_eq_true rfl) dL_law_0 (fun h0 H hP hD hS => ?_)
  have hP : va_P D vwCl [(h0, .inr (0, [.int (nI 0), .int (nI 0), .int (nI 0), .null, .null, .int (nI 0), .int (nI 0), .int (nI 0), .int (nI 0), .null, .null, .null, .null, .int (nI 0), .null, .null, .null]))] H := hP
  have hD : va_D (fun q : Nat => s.heap.size ≤ q) [(h0, .inr (0, [.int (nI 0), .int (nI 0), .int (nI 0), .null, .null, .int (nI 0), .int (nI 0), .int (nI 0), .int (nI 0), .null, .null, .null, .null, .int (nI 0), .null, .null, .null]))] := hD
  refine W.widen (k := 1) (n := 17) (by omega) (by omega) ?_
  refine lv_dup hx hb dL_law_3 rfl ?_
  have hPc := hP.sub (ws' := [(h0, .inr (0, [.int (nI 0), .int (nI 0), .int (nI 0), .null, .null, .int (nI 0), .int (nI 0), .int (nI 0), .int (nI 0), .null, .null, .null, .null, .int (nI 0), .null, .null, .null]))]) [0] rfl
  have hDc := hD.sub (ws' := [(h0, .inr (0, [.int (nI 0), .int (nI 0), .int (nI 0), .null, .null, .int (nI 0), .int (nI 0), .int (nI 0), .int (nI 0), .null, .null, .null, .null, .int (nI 0), .null, .null, .null]))]) [0] (by decide) rfl
  have hFc := va_free (wc := [(h0, .inr (0, [.int (nI 0), .int (nI 0), .int (nI 0), .null, .null, .int (nI 0), .int (nI 0), .int (nI 0), .int (nI 0), .null, .null, .null, .null, .int (nI 0), .null, .null, .null]))]) hD hS hA [0] rfl
  refine va_callv (va_runI (As := []) (rest := [.ref h0]) ⟨hx, hb, hml, hown, hts⟩ (c_X0_init l D h0 H.size) (cwI 0 hts gL_law_X0_init rfl rfl rfl (hts0 (.initialized RX0) (by decide +kernel)) (hts0 (.methodLink RL 93 yX0_init) (by decide +kernel)) (hts0 (.instanceMethod yX0_init) (by decide +kernel)) rfl (by decide +kernel) ⟨Nat.le_of_ble_eq_true rfl, Nat.le_of_ble_eq_true rfl⟩) ⟨nk_Pw.blind, fun U hU hW => ⟨rfl, by rw [hU], by rw [hU]; exact hPc, va_K.moved hW.alike hK, hDc.weaken (fun _ _ _ _ => trivial)⟩⟩ rfl rfl hl.1 rfl (lv_room (Nat.le_of_ble_eq_true rfl)) dL_law_4 ⟨Nat.le_of_ble_eq_true rfl, Nat.le_of_ble_eq_true rfl⟩) hS (fun q _ h => hFc q h) hFc (fun u t H1 locs ht hvm hw hB hz1 hk1 hS => ?_)
  obtain ⟨h1, h2, h3, h4, h5, h6, h7, h8, h9, cI, cJ, hP1, hK1, hD1⟩ := hB
  rw [ht] at hP1
  have hK1 := va_K.moved hvm.symm hK1
  obtain ⟨hP, hD⟩ := va_join (wr := []) (w1 := wX h0 h1 h2 h3 h4 h5 h6 h7 h8 h9 cI cJ 0 500 0 0 0 0 0 0 (fun _ => 0) (fun _ => 1) (fun _ => 0) (fun _ => 0) (fun _ => 0) (fun _ => 0) (fun _ => 0) (fun _ => 0) (fun _ => 0)) hP hD [0] [] rfl rfl (by decide) (by decide) hk1 hFc hP1 hD1
  have hP : va_P D vwCl (wX h0 h1 h2 h3 h4 h5 h6 h7 h8 h9 cI cJ 0 500 0 0 0 0 0 0 (fun _ => 0) (fun _ => 1) (fun _ => 0) (fun _ => 0) (fun _ => 0) (fun _ => 0) (fun _ => 0) (fun _ => 0) (fun _ => 0)) H1 := hP
  have hD : va_D (fun q : Nat => s.heap.size ≤ q) (wX h0 h1 h2 h3 h4 h5 h6 h7 h8 h9 cI cJ 0 500 0 0 0 0 0 0 (fun _ => 0) (fun _ => 1) (fun _ => 0) (fun _ => 0) (fun _ => 0) (fun _ => 0) (fun _ => 0) (fun _ => 0) (fun _ => 0)) := hD
  refine W.widen (k := 10) (n := 981) (by omega) (by omega) ?_
  refine W.eq (g2 := F0 m 7 ls [.ref h0]) rfl ?_
  refine lv_astore_n (lv' := [(1, .ref h0), (0, .ref b)]) hx hb dL_law_7 rfl hl (by decide) rfl (fun ls hl => ?_)
  exact lc_entry C0 hfl hK1 hA hbA hZ (by decide) (by decide) hL hP hD hS hl (fun H2 locs2 ls2 T hT hSt hS2 hl2 => law_loop C0 hfl hK1 hZ hL hT (T + 1) 0 (by omega) (by omega) 0 0 H2 locs2 ls2 hSt hS2 hl2)
-- ===== YOUR PART ENDS =====
set_option maxHeartbeats 4000000 in
theorem lw_walk (l : Launch) (hflags : l.flags = flags0) (b : Addr) (xs : List Int32) : MetFree l x (headSpec (Jvm.Cond.code x code maxLocals ret :: tables_1) room_1) (lw_P b xs) (fun _ _ _ _ _ => True) lw_Q := by
  refine MetFree.of_bodyS (code := code) (maxLocals := maxLocals) (ret := ret) (by decide) ?_ ?_
  · intro args s m h hn
    obtain ⟨meth, c, h1, h2, h3, h4, h5, h6, -, -⟩ := Cond.code_spec hn (atoms_spec (ws := Jvm.Cond.code x code maxLocals ret :: tables_1) h _ List.mem_cons_self)
    exact ⟨meth, c, h1, h2, h3, h4, h5, h6⟩
  · intro p e s m args below meth c s₁ B hml0 hP _
    obtain ⟨rfl, hx, hbd, hgv⟩ := hP
    obtain ⟨scr, harrAt, hlist, hof, hsmall⟩ := hx
    obtain ⟨hcb, hkn, -, -⟩ := State.arrayAt?_spec harrAt
    have hown : s.vm.findClass R_law = some m.cls := findClass_of_methodNamed B.named
    have hts0 : ∀ c ∈ (Jvm.Cond.code x code maxLocals ret :: tables_1), c.before #[Value.ref b] s = true := atoms_spec (ws := Jvm.Cond.code x code maxLocals ret :: tables_1) B.pre
    have hts : ∀ w ∈ lw_tbl, w.before #[Value.ref b] s = true := k2_hts_sels lw_privs (fun w hw => hts0 w (List.mem_cons_of_mem _ hw)) lw_privs_ok
    have hml : c.maxLocals = 15 := B.maxLocals_eq (hts0 _ List.mem_cons_self)
    have X₀ : Stand p l e room_1 s m #[Value.ref b] below meth c s₁ [] 0 0 := Stand.of_body B
    have hh0 : s₁.heap = s.heap := by rw [B.state]; rfl
    have hsz : scr.slots.size = xs.length := by rw [← Array.length_toList, hlist, List.length_map]
    have hval : ∀ j : Nat, j < xs.length → scr.slots[j]? = some (.int (xs.getD j 0)) := fun j hj => by
      rw [← Array.getElem?_toList, hlist]
      simp [hj]
    have hbl : b < s.heap.size := (Array.getElem?_eq_some_iff.mp hcb).1
    have hX : va_X b xs.length (fun j => xs.getD j 0) s s.heap := ⟨scr, hcb, hof, hkn, hsz, hval⟩
    have K : W p l e room_1 s m #[Value.ref b] below meth c s₁.heap [] 0 0 (lw_Z below #[Value.ref b] s) (entryFrame m ([Value.ref b] : List Value).toArray 15) := by
      rw [hh0]
      exact whole_start l hflags hbd ⟨B.exec, B.bytes, B.returns, hml, hown, hts, hX, hbl, B.notSynchronized, hgv⟩
    obtain ⟨t, a1, o, b1, b2, b3⟩ := K s₁ rfl X₀
    exact ⟨t, o, a1, b1, b2, b3⟩
theorem lw_pre_spec {args : Array Value} {s : State} (h : (Jvm.Cond.and given_1 narrow_1).before args s = true) (hr : rest_1_c.before args s = true) : ∃ (b : Addr) (xs : List Int32), lw_P b xs args s := by
  have hs := flat_of_before _ h
  have hq := flat_of_before _ hr
  have hc : (Cond.count 1).before args s = true := hs _ (by decide +kernel)
  have harr : (Cond.arrayOf (.arg 0) .int).before args s = true := hs _ (by decide +kernel)
  have hle : (Cond.le (.length (.arg 0)) (.int 260)).before args s = true := hs _ (by decide +kernel)
  have hlen : (Cond.isInt (.length (.arg 0))).before args s = true := hq _ (by decide +kernel)
  have hall : (Cond.all (.arg 0) (.isInt (.elem (.arg 0) (.index 0)))).before args s = true := hq _ (by decide +kernel)
  obtain ⟨b, xs, hb, hx⟩ := State.ints_of_pre rfl harr hlen hall
  have hsm : xs.length < 2 ^ 31 := hx.choose_spec.2.2.2
  have hev : (Term.length (.arg 0)).eval args s none [] s = some (.int xs.length.toInt32) := hx.length_eval hb
  have hv := Cond.le_ints hev (show (Term.int 260).eval args s none [] s = some (.int 260) from rfl)
  have hd : xs.length.toInt32 ≤ 260 := by
    simpa [Cond.before, Cond.holds, hv] using hle
  have hN : xs.length ≤ 260 := (Int32.ofNat_le_ofNat hsm (by decide)).mp (show Int32.ofNat xs.length ≤ Int32.ofNat 260 from hd)
  exact ⟨b, xs, Cond.one_arg hc (show args[0]? = some (.ref b) from hb), hx, hN, h⟩
theorem lw_comes (l : Launch) (hflags : l.flags = flags0) : Comes l x (Jvm.Cond.code x code maxLocals ret :: tables_1) room_1 (fun tb e args s => Calls_1 tb e args s ∧ rest_1 tb e args s ∧ Pre_1 tb e args s)
    (fun _ _ args s o t => lw_Q args s o t) := by
  intro p e ha hc hk s m args below hf hfit hheap happ hpre
  obtain ⟨b, xs, hP⟩ := lw_pre_spec hpre.2.2 hpre.2.1
  obtain ⟨k, o, h1, h2, h3, hQ⟩ := lw_walk l hflags b xs p e ha hc hk s m args below hf ((Spec.applies_iff_loose hf).mp happ).1 hP trivial
  exact ⟨k, o, h1, h2, h3, hQ⟩
theorem lw_frame {s t : State} {o : Outcome} {args : Array Value} (h : Framed s o t [] 125 1879) :
    Framed s o t (fieldLocs frame_1_writes args s ++ arrayLocs frame_1_arrays args s ++ staticLocs frame_1_statics s) 125 1879 := h
theorem lw_limb (L : Cond) (hL : ∀ (args : Array Value) (s t : State), L.after args s (.returned (some (.int 1))) t = true) :
    ArmFor flags0 classFile x code maxLocals ret World_1 tables_1 room_1 Calls_1 rest_1 Pre_1
      (fun tb e a s o t => postC L tb e a s o t ∧ Framed s o t (fieldLocs frame_1_writes a s ++ arrayLocs frame_1_arrays a s ++ staticLocs frame_1_statics s) 125 1879) := by
  intro l hflags _ _ p e ha hc hk s m args below hf hfit hheap happ hpre
  obtain ⟨k, o, h1, h2, h3, rfl, hF⟩ := lw_comes l hflags p e ha hc hk s m args below hf hfit hheap happ hpre
  exact ⟨k, _, h1, h2, h3, hL args s _, lw_frame hF⟩
theorem i_vc : Claimed_1_1 ∧ Claimed_1_2 := ⟨lw_limb limb_1_1 (fun args s t => by simp [limb_1_1, Cond.after, Cond.holds, Cond.value]), lw_limb limb_1_2 (fun args s t => Cond.after_iff.mpr (by
  first | (rw [show limb_1_2 = Cond.eq .result (.int 1) from rfl, Cond.eq_ints (x := 1) (y := 1) rfl rfl]; simp; done) | (simp [limb_1_2, Cond.value, Term.eval]; done)))⟩
