set_option maxHeartbeats 8000000 in
set_option maxRecDepth 100000 in
/-- the law's loop: at its head, j calls read -/
theorem law_loop {p : Program} {l : Launch} {e : Env} {s : State} {m : MethodId} {below : List Frame} {meth : Method} {c : Code} {sb L : Nat} {xs : Nat → Int32} {D : va_G} {h0 h1 h2 h3 h4 h5 h6 h7 h8 h9 g0 g1 g2 g3 g4 ho : Nat} {cI cJ : ClassId}
    (C0 : lw_At p s m meth c sb L xs) (hfl : l.stackTraces = false) (hK : va_K D vwCl (tX cI cJ) s) (hZ : nk_Z (fun q : Nat => s.heap.size ≤ q) s s.heap) (hL : L ≤ 2560) :
    ∀ (n j : Nat), 5 * j ≤ L → 513 ≤ j + n → ∀ (H : Heap) (locs : List Loc) (ls : Array Slot), nk_St D (fun q : Nat => s.heap.size ≤ q) h0 h1 h2 h3 h4 h5 h6 h7 h8 h9 g0 g1 g2 g3 g4 ho cI cJ H → va_S (fun q : Nat => s.heap.size ≤ q) s.heap H locs → lv_has ls 8 [(0, .ref sb), (1, .ref h0), (2, .ref g0), (3, .ref ho), (4, .int (nI (5 * j)))] → W p l e room_1 s m #[Value.ref sb] below meth c H locs (16 + j) (1042 + 6 * j) (lw_Z below #[Value.ref sb] s) (F0 m 23 ls []) := by
  obtain ⟨hx, hb, hr, hml, hown, hts0, hX, hbl, hlocks, hgv⟩ := id C0
  have hbA : ¬ (fun q : Nat => s.heap.size ≤ q) sb := Nat.not_le.mpr hbl
  intro n
  induction n with
  | zero =>
    intro j u1 u2
    exfalso; omega
  | succ n ih =>
    intro j u1 u2 H locs ls hSt hS hl
    refine lv_iload hx hb dL_law_23 (lv_at hl 4 rfl) ?_
    refine lv_aload_n hx hb dL_law_25 rfl (lv_at hl 0 rfl) ?_
    refine va_slen hx hb hX hbl hbA hS dL_law_26 ?_
    refine nk_topi (y := nI L) rfl ?_
    refine lv_iconst (v := nI 5) hx hb dL_law_27 (by decide +kernel) ?_
    refine lv_isub hx hb dL_law_28 ?_
    refine nk_zcmp_gt (tgt := 883) hx hb (nI_toInt (by omega)) (nk_subI (by omega) (by omega)) dL_law_29 (by decide) (fun c29 => ?_) (fun c29 => ?_)
    · refine lv_iconst (v := 1) hx hb dL_law_883 (by decide) ?_
      refine va_forget (fun q hq => hS.2.2 q hq) ?_
      refine W.widen (k := 1051) (n := 9300) (by omega) (by omega) ?_
      exact lw_ret hx hb hr hlocks dL_law_884
    · have hi5 : 5 * j + 5 ≤ L := by omega
      have kk : ∀ (H1 : Heap) (locs1 : List Loc) (ls1 : Array Slot), nk_St D (fun q : Nat => s.heap.size ≤ q) h0 h1 h2 h3 h4 h5 h6 h7 h8 h9 g0 g1 g2 g3 g4 ho cI cJ H1 → va_S (fun q : Nat => s.heap.size ≤ q) s.heap H1 locs1 → lv_has ls1 8 [(0, .ref sb), (1, .ref h0), (2, .ref g0), (3, .ref ho), (4, .int (nI (5 * j)))] → W p l e room_1 s m #[Value.ref sb] below meth c H1 locs1 (16 + j + 1) (1042 + 6 * j + 6) (lw_Z below #[Value.ref sb] s) (F0 m 877 ls1 []) := by
        intro H1 locs1 ls1 hSt1 hS1 hl1
        refine lv_iinc (v := nI (5 * (j + 1))) (lv' := [(4, .int (nI (5 * (j + 1)))), (0, .ref sb), (1, .ref h0), (2, .ref g0), (3, .ref ho)]) hx hb dL_law_877 hl1 (k := 4) rfl (by show nI (5 * j) + nI 5 = _; rw [nI_add]; rfl) (by decide) rfl (fun ls hl => ?_)
        refine lv_goto (tgt := 23) hx hb dL_law_880 (by decide) ?_
        refine W.widen (k := 16 + (j + 1)) (n := 1042 + 6 * (j + 1)) (by omega) (by omega) ?_
        exact ih (j + 1) (by omega) (by omega) H1 locs1 ls hSt1 hS1 (lv_sub hl [1, 2, 3, 4, 0] rfl)
      refine lv_aload_n hx hb dL_law_32 rfl (lv_at hl 0 rfl) ?_
      refine lv_iload hx hb dL_law_33 (lv_at hl 4 rfl) ?_
      refine va_sld hx hb hX hbl hbA hS (vp_in_nI (by omega) (by omega)) dL_law_35 ?_
      refine lv_bipush (v := 31) hx hb dL_law_36 (by decide +kernel) ?_
      refine lv_iand hx hb dL_law_38 ?_
      obtain ⟨t, ht, ht2⟩ := pk_andE (xs (nI (5 * j)).toNatClampNeg) (m := 31) 5 (by decide)
      refine nk_topi (y := nI t) ht2 ?_
      by_cases h20 : 20 < t
      · refine lv_tableOut (tgt := 877) hx hb dL_law_39 (Or.inr (by rw [nI_toInt (by omega)]; omega)) (by decide) ?_
        refine W.widen (k := 16 + j + 1) (n := 1042 + 6 * j + 6) (by omega) (by omega) ?_
        exact kk _ _ _ hSt hS hl
      · have hcase : t = 0 ∨ t = 1 ∨ t = 2 ∨ t = 3 ∨ t = 4 ∨ t = 5 ∨ t = 6 ∨ t = 7 ∨ t = 8 ∨ t = 9 ∨ t = 10 ∨ t = 11 ∨ t = 12 ∨ t = 13 ∨ t = 14 ∨ t = 15 ∨ t = 16 ∨ t = 17 ∨ t = 18 ∨ t = 19 ∨ t = 20 := by omega
        rcases hcase with rfl | rfl | rfl | rfl | rfl | rfl | rfl | rfl | rfl | rfl | rfl | rfl | rfl | rfl | rfl | rfl | rfl | rfl | rfl | rfl | rfl
        · refine lv_tableIn (tgt := 136) (off := 97) hx hb dL_law_39 (by decide +kernel) (by decide +kernel) (by decide +kernel) (by decide) ?_
          exact lc_begin C0 hfl hK hZ (by omega) (by omega) hi5 hL hSt hS hl kk
        · refine lv_tableIn (tgt := 228) (off := 189) hx hb dL_law_39 (by decide +kernel) (by decide +kernel) (by decide +kernel) (by decide) ?_
          exact lc_setRate C0 hfl hK hZ (by omega) (by omega) hi5 hL hSt hS hl kk
        · refine lv_tableIn (tgt := 284) (off := 245) hx hb dL_law_39 (by decide +kernel) (by decide +kernel) (by decide +kernel) (by decide) ?_
          exact lc_draw C0 hfl hK hZ (by omega) (by omega) hi5 hL hSt hS hl kk
        · refine lv_tableIn (tgt := 340) (off := 301) hx hb dL_law_39 (by decide +kernel) (by decide +kernel) (by decide +kernel) (by decide) ?_
          exact lc_pay C0 hfl hK hZ (by omega) (by omega) hi5 hL hSt hS hl kk
        · refine lv_tableIn (tgt := 396) (off := 357) hx hb dL_law_39 (by decide +kernel) (by decide +kernel) (by decide +kernel) (by decide) ?_
          exact lc_pass C0 hfl hK hZ (by omega) (by omega) hi5 hL hSt hS hl kk
        · refine lv_tableIn (tgt := 452) (off := 413) hx hb dL_law_39 (by decide +kernel) (by decide +kernel) (by decide +kernel) (by decide) ?_
          exact lc_end C0 hfl hK hZ (by omega) (by omega) hi5 hL hSt hS hl kk
        · refine lv_tableIn (tgt := 508) (off := 469) hx hb dL_law_39 (by decide +kernel) (by decide +kernel) (by decide +kernel) (by decide) ?_
          exact lc_value C0 hfl hK hZ (by omega) (by omega) hi5 hL hSt hS hl kk
        · refine lv_tableIn (tgt := 564) (off := 525) hx hb dL_law_39 (by decide +kernel) (by decide +kernel) (by decide +kernel) (by decide) ?_
          exact lc_move C0 hfl hK hZ (by omega) (by omega) hi5 hL hSt hS hl kk
        · refine lv_tableIn (tgt := 619) (off := 580) hx hb dL_law_39 (by decide +kernel) (by decide +kernel) (by decide +kernel) (by decide) ?_
          exact lc_day C0 hfl hK hZ (by omega) (by omega) hi5 hL hSt hS hl kk
        · refine lv_tableIn (tgt := 632) (off := 593) hx hb dL_law_39 (by decide +kernel) (by decide +kernel) (by decide +kernel) (by decide) ?_
          exact lc_hasEnded C0 hfl hK hZ (by omega) (by omega) hi5 hL hSt hS hl kk
        · refine lv_tableIn (tgt := 645) (off := 606) hx hb dL_law_39 (by decide +kernel) (by decide +kernel) (by decide +kernel) (by decide) ?_
          exact lc_age C0 hfl hK hZ (by omega) (by omega) hi5 hL hSt hS hl kk
        · refine lv_tableIn (tgt := 658) (off := 619) hx hb dL_law_39 (by decide +kernel) (by decide +kernel) (by decide +kernel) (by decide) ?_
          exact lc_worth C0 hfl hK hZ (by omega) (by omega) hi5 hL hSt hS hl kk
        · refine lv_tableIn (tgt := 671) (off := 632) hx hb dL_law_39 (by decide +kernel) (by decide +kernel) (by decide +kernel) (by decide) ?_
          exact lc_room C0 hfl hK hZ (by omega) (by omega) hi5 hL hSt hS hl kk
        · refine lv_tableIn (tgt := 684) (off := 645) hx hb dL_law_39 (by decide +kernel) (by decide +kernel) (by decide +kernel) (by decide) ?_
          exact lc_drawings C0 hfl hK hZ (by omega) (by omega) hi5 hL hSt hS hl kk
        · refine lv_tableIn (tgt := 697) (off := 658) hx hb dL_law_39 (by decide +kernel) (by decide +kernel) (by decide +kernel) (by decide) ?_
          exact lc_balance C0 hfl hK hZ (by omega) (by omega) hi5 hL hSt hS hl kk
        · refine lv_tableIn (tgt := 752) (off := 713) hx hb dL_law_39 (by decide +kernel) (by decide +kernel) (by decide +kernel) (by decide) ?_
          exact lc_debt C0 hfl hK hZ (by omega) (by omega) hi5 hL hSt hS hl kk
        · refine lv_tableIn (tgt := 766) (off := 727) hx hb dL_law_39 (by decide +kernel) (by decide +kernel) (by decide +kernel) (by decide) ?_
          exact lc_debtAnew C0 hfl hK hZ (by omega) (by omega) hi5 hL hSt hS hl kk
        · refine lv_tableIn (tgt := 780) (off := 741) hx hb dL_law_39 (by decide +kernel) (by decide +kernel) (by decide +kernel) (by decide) ?_
          exact lc_owed C0 hfl hK hZ (by omega) (by omega) hi5 hL hSt hS hl kk
        · refine lv_tableIn (tgt := 794) (off := 755) hx hb dL_law_39 (by decide +kernel) (by decide +kernel) (by decide +kernel) (by decide) ?_
          exact lc_spared C0 hfl hK hZ (by omega) (by omega) hi5 hL hSt hS hl kk
        · refine lv_tableIn (tgt := 808) (off := 769) hx hb dL_law_39 (by decide +kernel) (by decide +kernel) (by decide +kernel) (by decide) ?_
          exact lc_allowance C0 hfl hK hZ (by omega) (by omega) hi5 hL hSt hS hl kk
        · refine lv_tableIn (tgt := 821) (off := 782) hx hb dL_law_39 (by decide +kernel) (by decide +kernel) (by decide +kernel) (by decide) ?_
          exact lc_charge C0 hfl hK hZ (by omega) (by omega) hi5 hL hSt hS hl kk
set_option maxHeartbeats 8000000 in
set_option maxRecDepth 100000 in
/-- what a throw needs holds at the start -/
theorem law_Z {p : Program} {s : State} {m : MethodId} {meth : Method} {c : Code} {sb L : Nat} {xs : Nat → Int32} (C0 : lw_At p s m meth c sb L xs) : nk_Z (fun q : Nat => s.heap.size ≤ q) s s.heap := by
  obtain ⟨hx, hb, hr, hml, hown, hts, hX, hbl, hlocks, hgv⟩ := C0
  have hs := flat_of_before _ hgv
  have hA : ∀ a : Nat, a < s.heap.size → ¬ (fun q : Nat => s.heap.size ≤ q) a := fun a h => Nat.not_le.mpr h
  obtain ⟨a65, hr65⟩ : ∃ a, vk_R RX0 65 "a loan was begun, or the amount is above the greatest loan" a s := by
    obtain ⟨a, c9, cA, kA, q1, -⟩ := Cond.exactly_spec (args := #[Value.ref sb]) (first := s) (o := none) (s := s) (idx := []) (t := Term.string RX0 65) (cls := "java/lang/String") (hs (.exactly (.string RX0 65) "java/lang/String") (by decide +kernel))
    exact ⟨a, vk_R.of (hts (.stringRef RX0 65 "a loan was begun, or the amount is above the greatest loan") (by decide +kernel)) q1⟩
  obtain ⟨a92, hr92⟩ : ∃ a, vk_R RX0 92 "the amount is above the room, or there are too many drawings" a s := by
    obtain ⟨a, c9, cA, kA, q1, -⟩ := Cond.exactly_spec (args := #[Value.ref sb]) (first := s) (o := none) (s := s) (idx := []) (t := Term.string RX0 92) (cls := "java/lang/String") (hs (.exactly (.string RX0 92) "java/lang/String") (by decide +kernel))
    exact ⟨a, vk_R.of (hts (.stringRef RX0 92 "the amount is above the room, or there are too many drawings") (by decide +kernel)) q1⟩
  obtain ⟨a101, hr101⟩ : ∃ a, vk_R RX0 101 "the amount is above the debt, or there are too many payments" a s := by
    obtain ⟨a, c9, cA, kA, q1, -⟩ := Cond.exactly_spec (args := #[Value.ref sb]) (first := s) (o := none) (s := s) (idx := []) (t := Term.string RX0 101) (cls := "java/lang/String") (hs (.exactly (.string RX0 101) "java/lang/String") (by decide +kernel))
    exact ⟨a, vk_R.of (hts (.stringRef RX0 101 "the amount is above the debt, or there are too many payments") (by decide +kernel)) q1⟩
  obtain ⟨a111, hr111⟩ : ∃ a, vk_R RX0 111 "the day would be above the last one" a s := by
    obtain ⟨a, c9, cA, kA, q1, -⟩ := Cond.exactly_spec (args := #[Value.ref sb]) (first := s) (o := none) (s := s) (idx := []) (t := Term.string RX0 111) (cls := "java/lang/String") (hs (.exactly (.string RX0 111) "java/lang/String") (by decide +kernel))
    exact ⟨a, vk_R.of (hts (.stringRef RX0 111 "the day would be above the last one") (by decide +kernel)) q1⟩
  obtain ⟨a125, hr125⟩ : ∃ a, vk_R RX0 125 "there is no such life" a s := by
    obtain ⟨a, c9, cA, kA, q1, -⟩ := Cond.exactly_spec (args := #[Value.ref sb]) (first := s) (o := none) (s := s) (idx := []) (t := Term.string RX0 125) (cls := "java/lang/String") (hs (.exactly (.string RX0 125) "java/lang/String") (by decide +kernel))
    exact ⟨a, vk_R.of (hts (.stringRef RX0 125 "there is no such life") (by decide +kernel)) q1⟩
  obtain ⟨a128, hr128⟩ : ∃ a, vk_R RX0 128 "the life has ended" a s := by
    obtain ⟨a, c9, cA, kA, q1, -⟩ := Cond.exactly_spec (args := #[Value.ref sb]) (first := s) (o := none) (s := s) (idx := []) (t := Term.string RX0 128) (cls := "java/lang/String") (hs (.exactly (.string RX0 128) "java/lang/String") (by decide +kernel))
    exact ⟨a, vk_R.of (hts (.stringRef RX0 128 "the life has ended") (by decide +kernel)) q1⟩
  obtain ⟨a134, hr134⟩ : ∃ a, vk_R RX0 134 "there is no loan" a s := by
    obtain ⟨a, c9, cA, kA, q1, -⟩ := Cond.exactly_spec (args := #[Value.ref sb]) (first := s) (o := none) (s := s) (idx := []) (t := Term.string RX0 134) (cls := "java/lang/String") (hs (.exactly (.string RX0 134) "java/lang/String") (by decide +kernel))
    exact ⟨a, vk_R.of (hts (.stringRef RX0 134 "there is no loan") (by decide +kernel)) q1⟩
  obtain ⟨a136, hr136⟩ : ∃ a, vk_R RX0 136 "there are too many payments" a s := by
    obtain ⟨a, c9, cA, kA, q1, -⟩ := Cond.exactly_spec (args := #[Value.ref sb]) (first := s) (o := none) (s := s) (idx := []) (t := Term.string RX0 136) (cls := "java/lang/String") (hs (.exactly (.string RX0 136) "java/lang/String") (by decide +kernel))
    exact ⟨a, vk_R.of (hts (.stringRef RX0 136 "there are too many payments") (by decide +kernel)) q1⟩
  obtain ⟨a145, hr145⟩ : ∃ a, vk_R RX0 145 "there is no such drawing" a s := by
    obtain ⟨a, c9, cA, kA, q1, -⟩ := Cond.exactly_spec (args := #[Value.ref sb]) (first := s) (o := none) (s := s) (idx := []) (t := Term.string RX0 145) (cls := "java/lang/String") (hs (.exactly (.string RX0 145) "java/lang/String") (by decide +kernel))
    exact ⟨a, vk_R.of (hts (.stringRef RX0 145 "there is no such drawing") (by decide +kernel)) q1⟩
  obtain ⟨a167, hr167⟩ : ∃ a, vk_R RX0 167 "a number is out of range" a s := by
    obtain ⟨a, c9, cA, kA, q1, -⟩ := Cond.exactly_spec (args := #[Value.ref sb]) (first := s) (o := none) (s := s) (idx := []) (t := Term.string RX0 167) (cls := "java/lang/String") (hs (.exactly (.string RX0 167) "java/lang/String") (by decide +kernel))
    exact ⟨a, vk_R.of (hts (.stringRef RX0 167 "a number is out of range") (by decide +kernel)) q1⟩
  obtain ⟨a170, hr170⟩ : ∃ a, vk_R RX0 170 "there is no loan, or it has ended" a s := by
    obtain ⟨a, c9, cA, kA, q1, -⟩ := Cond.exactly_spec (args := #[Value.ref sb]) (first := s) (o := none) (s := s) (idx := []) (t := Term.string RX0 170) (cls := "java/lang/String") (hs (.exactly (.string RX0 170) "java/lang/String") (by decide +kernel))
    exact ⟨a, vk_R.of (hts (.stringRef RX0 170 "there is no loan, or it has ended") (by decide +kernel)) q1⟩
  refine ⟨⟨vx_Zqof (hts (.laysStatic Bundle.tN "UNASSIGNED_STACK" Bundle.steD) (by decide +kernel)) (hts (.initialized Bundle.tN) (by decide +kernel)) (hs (.isRef (.static Bundle.tN "UNASSIGNED_STACK" Bundle.steD)) (by decide +kernel)) hA, vx_Zqof (hts (.laysStatic Bundle.tN "SUPPRESSED_SENTINEL" Bundle.listD) (by decide +kernel)) (hts (.initialized Bundle.tN) (by decide +kernel)) (hs (.isRef (.static Bundle.tN "SUPPRESSED_SENTINEL" Bundle.listD)) (by decide +kernel)) hA⟩, ⟨va_Nw.of rfl (hts (.castable RIA RIA) (by decide +kernel)), va_Nw.of rfl (hts (.castable RIS RIS) (by decide +kernel)), va_Nw.of rfl (hts (.castable RIO RIO) (by decide +kernel)), va_Nc.of (hs (.not (.castable RIS RIA)) (by decide +kernel)), va_Nc.of (hs (.not (.castable RIS RIO)) (by decide +kernel))⟩, ⟨va_Nw.of rfl (hts (.declares (Bundle.initS "java/lang/RuntimeException")) (by decide +kernel)), va_Nw.of rfl (hts (.declares (Bundle.initS "java/lang/Exception")) (by decide +kernel)), va_Nw.of rfl (hts (.declares (Bundle.initS Bundle.tN)) (by decide +kernel))⟩, fun n => if n = 65 then a65 else if n = 92 then a92 else if n = 101 then a101 else if n = 111 then a111 else if n = 125 then a125 else if n = 128 then a128 else if n = 134 then a134 else if n = 136 then a136 else if n = 145 then a145 else if n = 167 then a167 else if n = 170 then a170 else 0, hr65, hr92, hr101, hr111, hr125, hr128, hr134, hr136, hr145, hr167, hr170⟩
set_option maxHeartbeats 8000000 in
set_option maxRecDepth 100000 in
/-- THE LAW, from its entry -/
theorem whole_start {p : Program} {e : Env} {s : State} {m : MethodId} {below : List Frame} {meth : Method} {c : Code} (l : Launch) (hflags : l.flags = flags0) {b L : Nat} {xs : Nat → Int32} (hL : L ≤ 2560) (C0 : lw_At p s m meth c b L xs) : W p l e room_1 s m #[Value.ref b] below meth c s.heap [] 0 0 (lw_Z below #[Value.ref b] s) (entryFrame m ([Value.ref b] : List Value).toArray 8) := by
  have hfl : l.stackTraces = false := by unfold Launch.stackTraces; rw [hflags]; decide +kernel
  have hZ := law_Z C0
  obtain ⟨hx, hb, hr, hml, hown, hts0, hX, hbl, hlocks, hgv⟩ := id C0
  have hts : ∀ w ∈ wsL_law, w.before #[Value.ref b] s = true := fun w h => hts0 w (wsL_law_in w h)
  have hown : s.vm.findClass RL = some m.cls := hown
  have hA : ∀ q : Nat, s.heap.size ≤ q → (fun q : Nat => s.heap.size ≤ q) q := fun _ h => h
  obtain ⟨k0, iS0, hKn0⟩ := u_known (C := RX0) (T := TX0) (N := 17) (n := 17) hts0 inX0 (hts0 (.instantiable RX0 17) (by decide +kernel))
  obtain ⟨k1, iS1, hKn1⟩ := u_known (C := RX1) (T := TX1) (N := 16) (n := 16) hts0 inX1 (hts0 (.instantiable RX1 16) (by decide +kernel))
  obtain ⟨D, hKc⟩ : ∃ (D : va_G), ∀ (k : Nat) (q : vw_C), vwCl[k]? = some q → u_Kn s q.1 q.2.1 q.2.2 (D.1 k) (D.2 k) := by
    refine ⟨(fun k => if k = 0 then k0 else k1, fun k => if k = 0 then iS0 else iS1), ?_⟩
    intro k q hq
    match k, hq with
    | 0, hq => cases hq; exact hKn0
    | 1, hq => cases hq; exact hKn1
    | k + 2, hq => simp [vwCl] at hq
  have hS : va_S (fun q : Nat => s.heap.size ≤ q) s.heap s.heap [] := va_S.rf
  have hK : va_K D vwCl [] s := ⟨hKc, fun k q h => by simp at h⟩
  have hP : va_P D vwCl [] s.heap := fun k q h => by simp at h
  have hD : va_D (fun q : Nat => s.heap.size ≤ q) [] := ⟨fun i j p q h => by simp at h, fun k q h => by simp at h⟩
  have hl := lv_entry ([.ref b]) (n := 8) (Nat.le_of_ble_eq_true rfl)
  rw [lg_entry_eq]
  generalize (lg_sl ([.ref b]) ++ List.replicate (8 - (lg_sl ([.ref b])).length) Slot.unset).toArray = ls at hl ⊢
  have hl : lv_has ls 8 [(0, .ref b)] := hl
  refine va_new (ci := 0) (fs := [.int (nI 0), .int (nI 0), .int (nI 0), .null, .null, .int (nI 0), .int (nI 0), .int (nI 0), .int (nI 0), .null, .null, .null, .null, .int (nI 0), .null, .null, .null]) (C := RX0) (T := TX0) (N := 17) hx hb hts0 inX0 tyX0 tyX0_ok hown (hts0 (.classLink RL 8 RX0) (by decide +kernel)) (hts0 (.instantiable RX0 17) (by decide +kernel)) (hts0 (.initialized RX0) (by decide +kernel)) hK hP hD hS hA rfl (fun j hj => by rcases (show j = 0 ∨ j = 1 ∨ j = 2 ∨ j = 3 ∨ j = 4 ∨ j = 5 ∨ j = 6 ∨ j = 7 ∨ j = 8 ∨ j = 9 ∨ j = 10 ∨ j = 11 ∨ j = 12 ∨ j = 13 ∨ j = 14 ∨ j = 15 ∨ j = 16 by omega) with rfl | rfl | rfl | rfl | rfl | rfl | rfl | rfl | rfl | rfl | rfl | rfl | rfl | rfl | rfl | rfl | rfl <;> rfl) (Nat.le_of_ble_eq_true rfl) (Nat.le_of_ble_eq_true rfl) dL_law_0 (fun h0 H hP hD hS => ?_)
  have hP : va_P D vwCl [(h0, .inr (0, [.int (nI 0), .int (nI 0), .int (nI 0), .null, .null, .int (nI 0), .int (nI 0), .int (nI 0), .int (nI 0), .null, .null, .null, .null, .int (nI 0), .null, .null, .null]))] H := hP
  have hD : va_D (fun q : Nat => s.heap.size ≤ q) [(h0, .inr (0, [.int (nI 0), .int (nI 0), .int (nI 0), .null, .null, .int (nI 0), .int (nI 0), .int (nI 0), .int (nI 0), .null, .null, .null, .null, .int (nI 0), .null, .null, .null]))] := hD
  refine W.widen (k := 1) (n := 17) (by omega) (by omega) ?_
  refine lv_dup hx hb dL_law_3 rfl ?_
  have hPc := hP.sub (ws' := [(h0, .inr (0, [.int (nI 0), .int (nI 0), .int (nI 0), .null, .null, .int (nI 0), .int (nI 0), .int (nI 0), .int (nI 0), .null, .null, .null, .null, .int (nI 0), .null, .null, .null]))]) [0] rfl
  have hDc := hD.sub (ws' := [(h0, .inr (0, [.int (nI 0), .int (nI 0), .int (nI 0), .null, .null, .int (nI 0), .int (nI 0), .int (nI 0), .int (nI 0), .null, .null, .null, .null, .int (nI 0), .null, .null, .null]))]) [0] (by decide) rfl
  have hFc := va_free (wc := [(h0, .inr (0, [.int (nI 0), .int (nI 0), .int (nI 0), .null, .null, .int (nI 0), .int (nI 0), .int (nI 0), .int (nI 0), .null, .null, .null, .null, .int (nI 0), .null, .null, .null]))]) hD hS hA [0] rfl
  refine va_callv (va_runI (As := []) (rest := [.ref h0]) ⟨hx, hb, hml, hown, hts⟩ (c_X0_init l D h0 H.size) (cwI 0 hts gL_law_X0_init rfl rfl rfl (hts0 (.initialized RX0) (by decide +kernel)) (hts0 (.methodLink RL 48 yX0_init) (by decide +kernel)) (hts0 (.instanceMethod yX0_init) (by decide +kernel)) rfl (by decide +kernel) ⟨Nat.le_of_ble_eq_true rfl, Nat.le_of_ble_eq_true rfl⟩) ⟨nk_Pw.blind, fun U hU hW => ⟨rfl, by rw [hU], by rw [hU]; exact hPc, va_K.moved hW.alike hK, hDc.weaken (fun _ _ _ _ => trivial)⟩⟩ rfl rfl hl.1 rfl (lv_room (Nat.le_of_ble_eq_true rfl)) dL_law_4 ⟨Nat.le_of_ble_eq_true rfl, Nat.le_of_ble_eq_true rfl⟩) hS (fun q _ h => hFc q h) hFc (fun u t H1 locs ht hvm hw hB hz1 hk1 hS => ?_)
  obtain ⟨h1, h2, h3, h4, h5, h6, h7, h8, h9, cI, cJ, hP1, hK1, hD1⟩ := hB
  rw [ht] at hP1
  have hK1 := va_K.moved hvm.symm hK1
  obtain ⟨hP, hD⟩ := va_join (wr := []) (w1 := wX h0 h1 h2 h3 h4 h5 h6 h7 h8 h9 cI cJ 0 500 0 0 0 0 0 0 (fun _ => 0) (fun _ => 1) (fun _ => 0) (fun _ => 0) (fun _ => 0) (fun _ => 0) (fun _ => 0) (fun _ => 0) (fun _ => 0)) hP hD [0] [] rfl rfl (by decide) (by decide) hk1 hFc hP1 hD1
  have hP : va_P D vwCl (wX h0 h1 h2 h3 h4 h5 h6 h7 h8 h9 cI cJ 0 500 0 0 0 0 0 0 (fun _ => 0) (fun _ => 1) (fun _ => 0) (fun _ => 0) (fun _ => 0) (fun _ => 0) (fun _ => 0) (fun _ => 0) (fun _ => 0)) H1 := hP
  have hD : va_D (fun q : Nat => s.heap.size ≤ q) (wX h0 h1 h2 h3 h4 h5 h6 h7 h8 h9 cI cJ 0 500 0 0 0 0 0 0 (fun _ => 0) (fun _ => 1) (fun _ => 0) (fun _ => 0) (fun _ => 0) (fun _ => 0) (fun _ => 0) (fun _ => 0) (fun _ => 0)) := hD
  refine W.widen (k := 10) (n := 981) (by omega) (by omega) ?_
  refine W.eq (g2 := F0 m 7 ls [.ref h0]) rfl ?_
  refine lv_astore_n (lv' := [(1, .ref h0), (0, .ref b)]) hx hb dL_law_7 rfl hl (by decide) rfl (fun ls hl => ?_)
  refine va_new (ci := 1) (fs := [.int (nI 0), .int (nI 0), .int (nI 0), .int (nI 0), .int (nI 0), .int (nI 0), .null, .null, .int (nI 0), .null, .null, .long (lN 0), .int (nI 0), .long (lN 0), .int (nI 0), .int (nI 0)]) (C := RX1) (T := TX1) (N := 16) hx hb hts0 inX1 tyX1 tyX1_ok hown (hts0 (.classLink RL 49 RX1) (by decide +kernel)) (hts0 (.instantiable RX1 16) (by decide +kernel)) (hts0 (.initialized RX1) (by decide +kernel)) hK1 hP hD hS hA rfl (fun j hj => by rcases (show j = 0 ∨ j = 1 ∨ j = 2 ∨ j = 3 ∨ j = 4 ∨ j = 5 ∨ j = 6 ∨ j = 7 ∨ j = 8 ∨ j = 9 ∨ j = 10 ∨ j = 11 ∨ j = 12 ∨ j = 13 ∨ j = 14 ∨ j = 15 by omega) with rfl | rfl | rfl | rfl | rfl | rfl | rfl | rfl | rfl | rfl | rfl | rfl | rfl | rfl | rfl | rfl <;> rfl) (Nat.le_of_ble_eq_true rfl) (Nat.le_of_ble_eq_true rfl) dL_law_8 (fun g0 H hP hD hS => ?_)
  refine W.widen (k := 11) (n := 997) (by omega) (by omega) ?_
  refine lv_dup hx hb dL_law_11 rfl ?_
  have hPc := hP.sub (ws' := [(g0, .inr (1, [.int (nI 0), .int (nI 0), .int (nI 0), .int (nI 0), .int (nI 0), .int (nI 0), .null, .null, .int (nI 0), .null, .null, .long (lN 0), .int (nI 0), .long (lN 0), .int (nI 0), .int (nI 0)]))]) [10] rfl
  have hDc := hD.sub (ws' := [(g0, .inr (1, [.int (nI 0), .int (nI 0), .int (nI 0), .int (nI 0), .int (nI 0), .int (nI 0), .null, .null, .int (nI 0), .null, .null, .long (lN 0), .int (nI 0), .long (lN 0), .int (nI 0), .int (nI 0)]))]) [10] (by decide) rfl
  have hFc := va_free (wc := [(g0, .inr (1, [.int (nI 0), .int (nI 0), .int (nI 0), .int (nI 0), .int (nI 0), .int (nI 0), .null, .null, .int (nI 0), .null, .null, .long (lN 0), .int (nI 0), .long (lN 0), .int (nI 0), .int (nI 0)]))]) hD hS hA [10] rfl
  refine va_callv (va_runI (As := []) (rest := [.ref g0]) ⟨hx, hb, hml, hown, hts⟩ (c_X1_init l D g0 H.size) (cwI 0 hts gL_law_X1_init rfl rfl rfl (hts0 (.initialized RX1) (by decide +kernel)) (hts0 (.methodLink RL 51 yX1_init) (by decide +kernel)) (hts0 (.instanceMethod yX1_init) (by decide +kernel)) rfl (by decide +kernel) ⟨Nat.le_of_ble_eq_true rfl, Nat.le_of_ble_eq_true rfl⟩) ⟨nk_Pw.blind, fun U hU hW => ⟨rfl, by rw [hU], by rw [hU]; exact hPc, va_K.moved hW.alike hK, hDc.weaken (fun _ _ _ _ => trivial)⟩⟩ rfl rfl hl.1 rfl (lv_room (Nat.le_of_ble_eq_true rfl)) dL_law_12 ⟨Nat.le_of_ble_eq_true rfl, Nat.le_of_ble_eq_true rfl⟩) hS (fun q _ h => hFc q h) hFc (fun u2 t2 H2 locs ht2 hvm2 hw2 hB2 hz2 hk2 hS => ?_)
  obtain ⟨g1, g2, g3, g4, cI2, cJ2, hP2, hK2, hD2⟩ := hB2
  rw [ht2] at hP2
  have hK2 := va_K.moved hvm2.symm hK2
  have eI : cI2 = cI := Option.some.inj (Eq.trans (Eq.symm (show s.vm.findClass ("[" ++ FieldType.int.toString) = some cI2 from (hK2.2 0 _ rfl).2)) (show s.vm.findClass ("[" ++ FieldType.int.toString) = some cI from (hK1.2 0 _ rfl).2))
  have eJ : cJ2 = cJ := Option.some.inj (Eq.trans (Eq.symm (show s.vm.findClass ("[" ++ FieldType.long.toString) = some cJ2 from (hK2.2 1 _ rfl).2)) (show s.vm.findClass ("[" ++ FieldType.long.toString) = some cJ from (hK1.2 1 _ rfl).2))
  rw [eI, eJ] at hP2 hD2
  obtain ⟨hP, hD⟩ := va_join (wr := wX h0 h1 h2 h3 h4 h5 h6 h7 h8 h9 cI cJ 0 500 0 0 0 0 0 0 (fun _ => 0) (fun _ => 1) (fun _ => 0) (fun _ => 0) (fun _ => 0) (fun _ => 0) (fun _ => 0) (fun _ => 0) (fun _ => 0)) (w1 := wM g0 g1 g2 g3 g4 cI cJ 0 500 0 0 0 0 0 0 0 0 0 0 (fun _ => 0) (fun _ => 0) (fun _ => 0) (fun _ => 0)) hP hD [10] [0, 1, 2, 3, 4, 5, 6, 7, 8, 9] rfl rfl (by decide) (by decide) hk2 hFc hP2 hD2
  refine W.widen (k := 15) (n := 1041) (by omega) (by omega) ?_
  refine W.eq (g2 := F0 m 15 ls [.ref g0]) rfl ?_
  refine lv_astore_n (lv' := [(2, .ref g0), (1, .ref h0), (0, .ref b)]) hx hb dL_law_15 rfl hl (by decide) rfl (fun ls hl => ?_)
  refine lv_iconst (v := nI 1) hx hb dL_law_16 (by decide +kernel) ?_
  refine va_newa (atype := .long) (a0 := (1, .inr (.inl (fun _ => 0)))) hx hb (hts0 (.arrayClass .long) (by decide +kernel)) rfl hK1 hP hD hS hA (fun cA => rfl) (by decide) (by decide +kernel) (Nat.le_of_ble_eq_true rfl) (Nat.le_of_ble_eq_true rfl) (Nat.le_of_ble_eq_true rfl) dL_law_17 (fun ho c3 H hK3 hP hD hS => ?_)
  have e3 : c3 = cJ := Option.some.inj (Eq.trans (Eq.symm (show s.vm.findClass ("[" ++ FieldType.long.toString) = some c3 from (hK3.2 2 _ rfl).2)) (show s.vm.findClass ("[" ++ FieldType.long.toString) = some cJ from (hK1.2 1 _ rfl).2))
  rw [e3] at hP hD
  have hP := hP.sub (ws' := wX h0 h1 h2 h3 h4 h5 h6 h7 h8 h9 cI cJ 0 500 0 0 0 0 0 0 (fun _ => 0) (fun _ => 1) (fun _ => 0) (fun _ => 0) (fun _ => 0) (fun _ => 0) (fun _ => 0) (fun _ => 0) (fun _ => 0) ++ (wM g0 g1 g2 g3 g4 cI cJ 0 500 0 0 0 0 0 0 0 0 0 0 (fun _ => 0) (fun _ => 0) (fun _ => 0) (fun _ => 0) ++ [(ho, .inl (cJ, 1, .inr (.inl (fun _ => 0))))])) [0, 1, 2, 3, 4, 5, 6, 7, 8, 9, 10, 11, 12, 13, 14, 15] rfl
  have hD := hD.sub (ws' := wX h0 h1 h2 h3 h4 h5 h6 h7 h8 h9 cI cJ 0 500 0 0 0 0 0 0 (fun _ => 0) (fun _ => 1) (fun _ => 0) (fun _ => 0) (fun _ => 0) (fun _ => 0) (fun _ => 0) (fun _ => 0) (fun _ => 0) ++ (wM g0 g1 g2 g3 g4 cI cJ 0 500 0 0 0 0 0 0 0 0 0 0 (fun _ => 0) (fun _ => 0) (fun _ => 0) (fun _ => 0) ++ [(ho, .inl (cJ, 1, .inr (.inl (fun _ => 0))))])) [0, 1, 2, 3, 4, 5, 6, 7, 8, 9, 10, 11, 12, 13, 14, 15] (by decide) rfl
  refine W.widen (k := 16) (n := 1042) (by omega) (by omega) ?_
  refine lv_astore_n (lv' := [(3, .ref ho), (2, .ref g0), (1, .ref h0), (0, .ref b)]) hx hb dL_law_19 rfl hl (by decide) rfl (fun ls hl => ?_)
  refine lv_iconst (v := nI 0) hx hb dL_law_20 (by decide +kernel) ?_
  refine lv_istore (lv' := [(4, .int (nI 0)), (3, .ref ho), (2, .ref g0), (1, .ref h0), (0, .ref b)]) hx hb dL_law_21 hl (by decide) rfl (fun ls hl => ?_)
  exact law_loop C0 hfl hK1 hZ hL 513 0 (by omega) (by omega) H _ ls ⟨_, _, _, _, _, _, _, _, _, _, _, _, _, _, _, _, _, _, _, _, _, _, _, _, _, Inv_0, hP, hD⟩ hS (lv_sub hl [4, 3, 2, 1, 0] rfl)
-- ===== YOUR PART ENDS =====
set_option maxHeartbeats 4000000 in
theorem lw_walk (l : Launch) (hflags : l.flags = flags0) (b : Addr) (xs : List Int32) : MetFree l x (headSpec (Jvm.Cond.code x code maxLocals ret :: tables_1) room_1) (lw_P b xs) (fun _ _ _ _ _ => True) lw_Q := by
  refine MetFree.of_bodyS (code := code) (maxLocals := maxLocals) (ret := ret) (by decide) ?_ ?_
  · intro args s m h hn
    obtain ⟨meth, c, h1, h2, h3, h4, h5, h6, -, -⟩ := Cond.code_spec hn (atoms_spec (ws := Jvm.Cond.code x code maxLocals ret :: tables_1) h _ List.mem_cons_self)
    exact ⟨meth, c, h1, h2, h3, h4, h5, h6⟩
  · intro p e s m args below meth c s₁ B hml0 hP _
    obtain ⟨rfl, hx, hbd, hgv⟩ := hP
    obtain ⟨scr, harrAt, hlist, hof, hsmall⟩ := hx
    obtain ⟨hcb, hkn, -, -⟩ := State.arrayAt?_spec harrAt
    have hown : s.vm.findClass R_law = some m.cls := findClass_of_methodNamed B.named
    have hts0 : ∀ c ∈ (Jvm.Cond.code x code maxLocals ret :: tables_1), c.before #[Value.ref b] s = true := atoms_spec (ws := Jvm.Cond.code x code maxLocals ret :: tables_1) B.pre
    have hts : ∀ w ∈ lw_tbl, w.before #[Value.ref b] s = true := k2_hts_sels lw_privs (fun w hw => hts0 w (List.mem_cons_of_mem _ hw)) lw_privs_ok
    have hml : c.maxLocals = 8 := B.maxLocals_eq (hts0 _ List.mem_cons_self)
    have X₀ : Stand p l e room_1 s m #[Value.ref b] below meth c s₁ [] 0 0 := Stand.of_body B
    have hh0 : s₁.heap = s.heap := by rw [B.state]; rfl
    have hsz : scr.slots.size = xs.length := by rw [← Array.length_toList, hlist, List.length_map]
    have hval : ∀ j : Nat, j < xs.length → scr.slots[j]? = some (.int (xs.getD j 0)) := fun j hj => by
      rw [← Array.getElem?_toList, hlist]
      simp [hj]
    have hbl : b < s.heap.size := (Array.getElem?_eq_some_iff.mp hcb).1
    have hX : va_X b xs.length (fun j => xs.getD j 0) s s.heap := ⟨scr, hcb, hof, hkn, hsz, hval⟩
    have K : W p l e room_1 s m #[Value.ref b] below meth c s₁.heap [] 0 0 (lw_Z below #[Value.ref b] s) (entryFrame m ([Value.ref b] : List Value).toArray 8) := by
      rw [hh0]
      exact whole_start l hflags hbd ⟨B.exec, B.bytes, B.returns, hml, hown, hts, hX, hbl, B.notSynchronized, hgv⟩
    obtain ⟨t, a1, o, b1, b2, b3⟩ := K s₁ rfl X₀
    exact ⟨t, o, a1, b1, b2, b3⟩
theorem lw_pre_spec {args : Array Value} {s : State} (h : (Jvm.Cond.and given_1 narrow_1).before args s = true) (hr : rest_1_c.before args s = true) : ∃ (b : Addr) (xs : List Int32), lw_P b xs args s := by
  have hs := flat_of_before _ h
  have hq := flat_of_before _ hr
  have hc : (Cond.count 1).before args s = true := hs _ (by decide +kernel)
  have harr : (Cond.arrayOf (.arg 0) .int).before args s = true := hs _ (by decide +kernel)
  have hle : (Cond.le (.length (.arg 0)) (.int 2560)).before args s = true := hs _ (by decide +kernel)
  have hlen : (Cond.isInt (.length (.arg 0))).before args s = true := hq _ (by decide +kernel)
  have hall : (Cond.all (.arg 0) (.isInt (.elem (.arg 0) (.index 0)))).before args s = true := hq _ (by decide +kernel)
  obtain ⟨b, xs, hb, hx⟩ := State.ints_of_pre rfl harr hlen hall
  have hsm : xs.length < 2 ^ 31 := hx.choose_spec.2.2.2
  have hev : (Term.length (.arg 0)).eval args s none [] s = some (.int xs.length.toInt32) := hx.length_eval hb
  have hv := Cond.le_ints hev (show (Term.int 2560).eval args s none [] s = some (.int 2560) from rfl)
  have hd : xs.length.toInt32 ≤ 2560 := by
    simpa [Cond.before, Cond.holds, hv] using hle
  have hN : xs.length ≤ 2560 := (Int32.ofNat_le_ofNat hsm (by decide)).mp (show Int32.ofNat xs.length ≤ Int32.ofNat 2560 from hd)
  exact ⟨b, xs, Cond.one_arg hc (show args[0]? = some (.ref b) from hb), hx, hN, h⟩
theorem lw_comes (l : Launch) (hflags : l.flags = flags0) : Comes l x (Jvm.Cond.code x code maxLocals ret :: tables_1) room_1 (fun tb e args s => Calls_1 tb e args s ∧ rest_1 tb e args s ∧ Pre_1 tb e args s)
    (fun _ _ args s o t => lw_Q args s o t) := by
  intro p e ha hc hk s m args below hf hfit hheap happ hpre
  obtain ⟨b, xs, hP⟩ := lw_pre_spec hpre.2.2 hpre.2.1
  obtain ⟨k, o, h1, h2, h3, hQ⟩ := lw_walk l hflags b xs p e ha hc hk s m args below hf ((Spec.applies_iff_loose hf).mp happ).1 hP trivial
  exact ⟨k, o, h1, h2, h3, hQ⟩
theorem lw_frame {s t : State} {o : Outcome} {args : Array Value} (h : Framed s o t [] 1051 9300) :
    Framed s o t (fieldLocs frame_1_writes args s ++ arrayLocs frame_1_arrays args s ++ staticLocs frame_1_statics s) 1051 9300 := h
theorem lw_limb (L : Cond) (hL : ∀ (args : Array Value) (s t : State), L.after args s (.returned (some (.int 1))) t = true) :
    ArmFor flags0 classFile x code maxLocals ret World_1 tables_1 room_1 Calls_1 rest_1 Pre_1
      (fun tb e a s o t => postC L tb e a s o t ∧ Framed s o t (fieldLocs frame_1_writes a s ++ arrayLocs frame_1_arrays a s ++ staticLocs frame_1_statics s) 1051 9300) := by
  intro l hflags _ _ p e ha hc hk s m args below hf hfit hheap happ hpre
  obtain ⟨k, o, h1, h2, h3, rfl, hF⟩ := lw_comes l hflags p e ha hc hk s m args below hf hfit hheap happ hpre
  exact ⟨k, _, h1, h2, h3, hL args s _, lw_frame hF⟩
theorem i_vc : Claimed_1_1 ∧ Claimed_1_2 := ⟨lw_limb limb_1_1 (fun args s t => by simp [limb_1_1, Cond.after, Cond.holds, Cond.value]), lw_limb limb_1_2 (fun args s t => Cond.after_iff.mpr (by
  first | (rw [show limb_1_2 = Cond.eq .result (.int 1) from rfl, Cond.eq_ints (x := 1) (y := 1) rfl rfl]; simp; done) | (simp [limb_1_2, Cond.value, Term.eval]; done)))⟩
