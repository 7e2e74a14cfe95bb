set_option maxHeartbeats 8000000 in
set_option maxRecDepth 100000 in
theorem lc_setRate {p : Program} {l : Launch} {e : Env} {s : State} {m : MethodId} {below : List Frame} {meth : Method} {c : Code} {sb L : Nat} {xs : Nat → Int32} {D : va_G} {h0 h1 h2 h3 h4 h5 h6 h7 h8 h9 g0 g1 g2 g3 g4 ho : Nat} {cI cJ : ClassId} {H : Heap} {locs : List Loc} {cells slots : Nat} {Q : State → Prop} {ls : Array Slot} {i : Nat}
    (C0 : lw_At p s m meth c sb L xs) (hfl : l.stackTraces = false) (hK : va_K D vwCl (tX cI cJ) s) (hZ : nk_Z (fun q : Nat => s.heap.size ≤ q) s s.heap) (hc9 : cells + 1 ≤ 1051) (hs9 : slots + 6 ≤ 9300) (hi5 : i + 5 ≤ L) (hL : L ≤ 2560) (hSt : nk_St D (fun q : Nat => s.heap.size ≤ q) h0 h1 h2 h3 h4 h5 h6 h7 h8 h9 g0 g1 g2 g3 g4 ho cI cJ H) (hS : va_S (fun q : Nat => s.heap.size ≤ q) s.heap H locs) (hl : lv_has ls 8 [(0, .ref sb), (1, .ref h0), (2, .ref g0), (3, .ref ho), (4, .int (nI i))])
    (kk : ∀ (H1 : Heap) (locs1 : List Loc) (ls1 : Array Slot), nk_St D (fun q : Nat => s.heap.size ≤ q) h0 h1 h2 h3 h4 h5 h6 h7 h8 h9 g0 g1 g2 g3 g4 ho cI cJ H1 → va_S (fun q : Nat => s.heap.size ≤ q) s.heap H1 locs1 → lv_has ls1 8 [(0, .ref sb), (1, .ref h0), (2, .ref g0), (3, .ref ho), (4, .int (nI i))] → W p l e room_1 s m #[Value.ref sb] below meth c H1 locs1 (cells + 1) (slots + 6) Q (F0 m 877 ls1 [])) : W p l e room_1 s m #[Value.ref sb] below meth c H locs cells slots Q (F0 m 228 ls []) := by
  obtain ⟨hx, hb, hr, hml, hown, hts0, hX, hbl, hlocks, hgv⟩ := C0
  have hts : ∀ w ∈ wsL_law, w.before #[Value.ref sb] s = true := fun w h => hts0 w (wsL_law_in w h)
  have hown : s.vm.findClass RL = some m.cls := hown
  have hA : ∀ q : Nat, s.heap.size ≤ q → (fun q : Nat => s.heap.size ≤ q) q := fun _ h => h
  have hbA : ¬ (fun q : Nat => s.heap.size ≤ q) sb := Nat.not_le.mpr hbl
  obtain ⟨d, r, lc, bg, w, rm, k, pn, fa, e1, am, dd, rt, b, pd, pt, tp, gb, dr, pa, pi, ga, e2, th, og, hI, hP, hD⟩ := hSt
  obtain ⟨hlc, hd, hk, hpn, hbg, hw, hrm, he, hed, hfa, ham, hpd, hpd2, hpt, hbs, hb9, hrt, hdd, hroll, hh1, hh2, hh3, htp, hsa, hk0, he2, he2d, hga, hgb, hgb2, hpi, hdr, hpa1, he20, he21, hk0m, he28, hgbz, halE, hmxE, hlsE⟩ := Inv_f hI
  have hgbp : 0 < gb ↔ 0 < lc := by omega
  obtain ⟨q1, hq1⟩ : ∃ q, xs (i + 1) = q := ⟨_, rfl⟩
  obtain ⟨z1, hzz1⟩ : ∃ z, q1.toInt = z := ⟨_, rfl⟩
  obtain ⟨a1, hpp1, hza1⟩ := nk_arg hzz1
  refine lv_aload_n hx hb dL_law_228 rfl (lv_at hl 1 rfl) ?_
  refine lv_aload_n hx hb dL_law_229 rfl (lv_at hl 0 rfl) ?_
  refine lv_iload hx hb dL_law_230 (lv_at hl 4 rfl) ?_
  refine lv_iconst (v := nI 1) hx hb dL_law_232 (by decide +kernel) ?_
  refine nk_iadd hx hb dL_law_233 ?_
  refine va_sld hx hb hX hbl hbA hS (vp_in_nI (by omega) (by omega)) dL_law_234 ?_
  refine nk_topi (y := q1) (by rw [nI_clamp (by omega)]; exact hq1) ?_
  refine lv_aload_n hx hb dL_law_235 rfl (lv_at hl 3 rfl) ?_
  have hPc := hP.sub (ws' := wX h0 h1 h2 h3 h4 h5 h6 h7 h8 h9 cI cJ d r lc bg w rm k pn fa e1 am dd rt b pd pt tp ++ [(ho, .inl (cJ, 1, .inr (.inl (og))))]) [0, 1, 2, 3, 4, 5, 6, 7, 8, 9, 15] rfl
  have hDc := hD.sub (ws' := wX h0 h1 h2 h3 h4 h5 h6 h7 h8 h9 cI cJ d r lc bg w rm k pn fa e1 am dd rt b pd pt tp ++ [(ho, .inl (cJ, 1, .inr (.inl (og))))]) [0, 1, 2, 3, 4, 5, 6, 7, 8, 9, 15] (by decide) rfl
  have hFc := va_free (wc := wX h0 h1 h2 h3 h4 h5 h6 h7 h8 h9 cI cJ d r lc bg w rm k pn fa e1 am dd rt b pd pt tp ++ [(ho, .inl (cJ, 1, .inr (.inl (og))))]) hD hS hA [0, 1, 2, 3, 4, 5, 6, 7, 8, 9, 15] rfl
  have hZH := hZ.kept hS.2.1
  refine nk_icall (mc := 1) (ms := 6) (wr := wM g0 g1 g2 g3 g4 cI cJ d r gb w rm lc k dr pn pa pi th ga e2 b rt) (vx_runSW (As := [.ref h0, .int q1, .ref ho]) (rest := []) ⟨hx, hb, hml, hown, hts⟩ (c_L_setRate l hfl D h0 h1 h2 h3 h4 h5 h6 h7 h8 h9 cI cJ d r lc bg w rm k pn fa e1 am dd rt b pd pt tp ho og H.size q1 z1 a1 hzz1 hpp1) (vx_cwSW 3 hts gL_law_L_setRate rfl rfl rfl (by decide +kernel) ⟨Nat.le_of_ble_eq_true rfl, Nat.le_of_ble_eq_true rfl⟩) ⟨nk_Px.blind, fun U hU hW => ⟨rfl, by rw [hU], by rw [hU]; exact hPc, va_K.moved hW.alike hK, hDc.weaken (fun _ _ _ _ => trivial), by rw [hU]; exact nk_Z.go hZH hW (fun q h => hFc q h)⟩⟩ rfl rfl hl.1 rfl (lv_room (Nat.le_of_ble_eq_true rfl)) dL_law_236 ⟨by show cells + 1 ≤ 1051; omega, by show slots + 6 ≤ 9300; omega⟩) hP hD hS hA [0, 1, 2, 3, 4, 5, 6, 7, 8, 9, 15] [10, 11, 12, 13, 14] rfl rfl rfl (by decide) (fun r9 w1 H locs hw9 hP hD hS hk9 => ?_)
  rcases hw9 with ⟨rfl, r8, w2, ⟨x1, rfl, rfl⟩, rfl⟩ | ⟨rfl, x1, rfl⟩
  · have hP := hP.sub (ws' := wX h0 h1 h2 h3 h4 h5 h6 h7 h8 h9 cI cJ d a1 lc bg w rm k pn fa e1 am dd rt b pd pt tp ++ (wM g0 g1 g2 g3 g4 cI cJ d r gb w rm lc k dr pn pa pi th ga e2 b rt ++ [(ho, .inl (cJ, 1, .inr (.inl (vp_updL og 0 ((nI r).toInt64)))))])) [6, 7, 8, 9, 10, 11, 12, 13, 14, 15, 0, 1, 2, 3, 4, 5] rfl
    have hD := hD.sub (ws' := wX h0 h1 h2 h3 h4 h5 h6 h7 h8 h9 cI cJ d a1 lc bg w rm k pn fa e1 am dd rt b pd pt tp ++ (wM g0 g1 g2 g3 g4 cI cJ d r gb w rm lc k dr pn pa pi th ga e2 b rt ++ [(ho, .inl (cJ, 1, .inr (.inl (vp_updL og 0 ((nI r).toInt64)))))])) [6, 7, 8, 9, 10, 11, 12, 13, 14, 15, 0, 1, 2, 3, 4, 5] (by decide) rfl
    refine lv_istore (lv' := [(5, .int (nI 0)), (0, .ref sb), (1, .ref h0), (2, .ref g0), (3, .ref ho), (4, .int (nI i))]) hx hb dL_law_239 hl (by decide) rfl (fun ls hl => ?_)
    refine lv_aload_n hx hb dL_law_241 rfl (lv_at hl 3 rfl) ?_
    refine lv_aload_n hx hb dL_law_242 rfl (lv_at hl 1 rfl) ?_
    refine lv_iload hx hb dL_law_243 (lv_at hl 5 rfl) ?_
    refine lv_iconst (v := nI 1) hx hb dL_law_245 (by decide +kernel) ?_
    refine nk_iadd hx hb dL_law_246 ?_
    refine va_sld hx hb hX hbl hbA hS (vp_in_nI (by omega) (by omega)) dL_law_247 ?_
    refine nk_topi (y := q1) (by rw [nI_clamp (by omega)]; exact hq1) ?_
    have hPm := hP.sub (ws' := wM g0 g1 g2 g3 g4 cI cJ d r gb w rm lc k dr pn pa pi th ga e2 b rt) [10, 11, 12, 13, 14] rfl
    have hDm := hD.sub (ws' := wM g0 g1 g2 g3 g4 cI cJ d r gb w rm lc k dr pn pa pi th ga e2 b rt) [10, 11, 12, 13, 14] (by decide) rfl
    refine nk_icall (wr := wX h0 h1 h2 h3 h4 h5 h6 h7 h8 h9 cI cJ d a1 lc bg w rm k pn fa e1 am dd rt b pd pt tp ++ [(ho, .inl (cJ, 1, .inr (.inl (vp_updL og 0 ((nI r).toInt64)))))]) (va_runV (As := [.int q1]) (rest := []) ⟨hx, hb, hml, hown, hts⟩ (c_X1_setRate l D g0 g1 g2 g3 g4 cI cJ d r gb w rm lc k dr pn pa pi th ga e2 b rt H.size q1 z1 a1 hzz1 hpp1) (cwV 1 hts gL_law_X1_setRate rfl rfl rfl (by decide +kernel) ⟨Nat.le_of_ble_eq_true rfl, Nat.le_of_ble_eq_true rfl⟩) ⟨nk_Pw.blind, va_recv hK hPm (ci := 1) (q0 := 0) rfl rfl, fun U hU hW => ⟨rfl, by rw [hU], by rw [hU]; exact hPm, va_K.moved hW.alike hK, hDm.weaken (fun _ _ _ _ => trivial)⟩⟩ rfl rfl hl.1 rfl (lv_room (Nat.le_of_ble_eq_true rfl)) dL_law_248 ⟨by show cells + 1 + 0 ≤ 1051; omega, by show slots + 6 + 0 ≤ 9300; omega⟩) hP hD hS hA [10, 11, 12, 13, 14] [0, 1, 2, 3, 4, 5, 6, 7, 8, 9, 15] rfl rfl rfl (by decide) (fun r7 w1 H locs hw9 hP hD hS hk9 => ?_)
    try simp only [halE, hlsE, hmxE] at hw9
    rcases hw9 with ⟨y1, rfl⟩ | ⟨y1, rfl, rfl⟩
    · exfalso; omega
    · have hP := hP.sub (ws' := wX h0 h1 h2 h3 h4 h5 h6 h7 h8 h9 cI cJ d a1 lc bg w rm k pn fa e1 am dd rt b pd pt tp ++ (wM g0 g1 g2 g3 g4 cI cJ d a1 gb w rm lc k dr pn pa pi 0 ga e2 b rt ++ [(ho, .inl (cJ, 1, .inr (.inl (vp_updL og 0 ((nI r).toInt64)))))])) [0, 1, 2, 3, 4, 5, 6, 7, 8, 9, 11, 12, 13, 14, 15, 10] rfl
      have hD := hD.sub (ws' := wX h0 h1 h2 h3 h4 h5 h6 h7 h8 h9 cI cJ d a1 lc bg w rm k pn fa e1 am dd rt b pd pt tp ++ (wM g0 g1 g2 g3 g4 cI cJ d a1 gb w rm lc k dr pn pa pi 0 ga e2 b rt ++ [(ho, .inl (cJ, 1, .inr (.inl (vp_updL og 0 ((nI r).toInt64)))))])) [0, 1, 2, 3, 4, 5, 6, 7, 8, 9, 11, 12, 13, 14, 15, 10] (by decide) rfl
      refine lv_istore (lv' := [(6, .int (nI r)), (5, .int (nI 0)), (0, .ref sb), (1, .ref h0), (2, .ref g0), (3, .ref ho), (4, .int (nI i))]) hx hb dL_law_251 hl (by decide) rfl (fun ls hl => ?_)
      refine lv_aload_n hx hb dL_law_253 rfl (lv_at hl 4 rfl) ?_
      have hPt := hP.sub (ws' := wM g0 g1 g2 g3 g4 cI cJ d a1 gb w rm lc k dr pn pa pi 0 ga e2 b rt) [10, 11, 12, 13, 14] rfl
      refine nk_rd (W.runV (As := []) (rest := []) ⟨hx, hb, hml, hown, hts⟩ (c_X1_thrown l D g0 g1 g2 g3 g4 cI cJ d a1 gb w rm lc k dr pn pa pi 0 ga e2 b rt) (cwV 0 hts gL_law_X1_thrown rfl rfl rfl (by decide +kernel) ⟨Nat.le_of_ble_eq_true rfl, Nat.le_of_ble_eq_true rfl⟩) ⟨nk_Pr.blind, va_recv hK hPt (ci := 1) (q0 := 0) rfl rfl, fun U hU hW => ⟨rfl, by rw [hU]; exact hPt, va_K.moved hW.alike hK⟩⟩ rfl rfl hl.1 rfl (lv_room (Nat.le_of_ble_eq_true rfl)) dL_law_254 ⟨by show cells + 1 + 0 ≤ 1051; omega, by show slots + 6 + 0 ≤ 9300; omega⟩) ?_
      refine W.eq (g2 := F0 m 257 ls [.int (nI 0)]) rfl ?_
      refine lv_iload hx hb dL_law_257 (lv_at hl 1 rfl) ?_
      refine nk_isame (tgt := 264) hx hb rfl dL_law_259 (by decide) ?_
      refine lv_iload hx hb dL_law_264 (lv_at hl 1 rfl) ?_
      refine nk_if_ne (tgt := 281) hx hb (by decide) dL_law_266 (by decide) (fun c9 => absurd c9 (by decide)) (fun _ => ?_)
      refine lv_aload_n hx hb dL_law_269 rfl (lv_at hl 5 rfl) ?_
      refine lv_iconst (v := nI 0) hx hb dL_law_270 (by decide +kernel) ?_
      refine va_lald hx hb hK hP 15 1 rfl rfl (vp_in_nI (by decide) (by decide)) dL_law_271 ?_
      refine nk_topl (y := (nI r).toInt64) nk_out ?_
      refine lv_iload hx hb dL_law_272 (lv_at hl 0 rfl) ?_
      refine lv_i2l hx hb dL_law_274 rfl ?_
      refine nk_lsame (tgt := 281) hx hb rfl dL_law_275 dL_law_276 (by decide) ?_
      refine lv_goto (tgt := 877) hx hb dL_law_281 (by decide) ?_
      refine W.widen (k := cells + 1) (n := slots + 6) (by omega) (by omega) ?_
      exact kk _ _ _ ⟨_, _, _, _, _, _, _, _, _, _, _, _, _, _, _, _, _, _, _, _, _, _, _, _, _, Inv_setRate hI (by omega), hP, hD⟩ hS (lv_sub hl [2, 3, 4, 5, 6] rfl)
  · have hP := hP.sub (ws' := wX h0 h1 h2 h3 h4 h5 h6 h7 h8 h9 cI cJ d r lc bg w rm k pn fa e1 am dd rt b pd pt tp ++ (wM g0 g1 g2 g3 g4 cI cJ d r gb w rm lc k dr pn pa pi th ga e2 b rt ++ [(ho, .inl (cJ, 1, .inr (.inl (og))))])) [6, 7, 8, 9, 10, 11, 12, 13, 14, 15, 0, 1, 2, 3, 4, 5] rfl
    have hD := hD.sub (ws' := wX h0 h1 h2 h3 h4 h5 h6 h7 h8 h9 cI cJ d r lc bg w rm k pn fa e1 am dd rt b pd pt tp ++ (wM g0 g1 g2 g3 g4 cI cJ d r gb w rm lc k dr pn pa pi th ga e2 b rt ++ [(ho, .inl (cJ, 1, .inr (.inl (og))))])) [6, 7, 8, 9, 10, 11, 12, 13, 14, 15, 0, 1, 2, 3, 4, 5] (by decide) rfl
    refine lv_istore (lv' := [(5, .int (nI 1)), (0, .ref sb), (1, .ref h0), (2, .ref g0), (3, .ref ho), (4, .int (nI i))]) hx hb dL_law_239 hl (by decide) rfl (fun ls hl => ?_)
    refine lv_aload_n hx hb dL_law_241 rfl (lv_at hl 3 rfl) ?_
    refine lv_aload_n hx hb dL_law_242 rfl (lv_at hl 1 rfl) ?_
    refine lv_iload hx hb dL_law_243 (lv_at hl 5 rfl) ?_
    refine lv_iconst (v := nI 1) hx hb dL_law_245 (by decide +kernel) ?_
    refine nk_iadd hx hb dL_law_246 ?_
    refine va_sld hx hb hX hbl hbA hS (vp_in_nI (by omega) (by omega)) dL_law_247 ?_
    refine nk_topi (y := q1) (by rw [nI_clamp (by omega)]; exact hq1) ?_
    have hPm := hP.sub (ws' := wM g0 g1 g2 g3 g4 cI cJ d r gb w rm lc k dr pn pa pi th ga e2 b rt) [10, 11, 12, 13, 14] rfl
    have hDm := hD.sub (ws' := wM g0 g1 g2 g3 g4 cI cJ d r gb w rm lc k dr pn pa pi th ga e2 b rt) [10, 11, 12, 13, 14] (by decide) rfl
    refine nk_icall (wr := wX h0 h1 h2 h3 h4 h5 h6 h7 h8 h9 cI cJ d r lc bg w rm k pn fa e1 am dd rt b pd pt tp ++ [(ho, .inl (cJ, 1, .inr (.inl (og))))]) (va_runV (As := [.int q1]) (rest := []) ⟨hx, hb, hml, hown, hts⟩ (c_X1_setRate l D g0 g1 g2 g3 g4 cI cJ d r gb w rm lc k dr pn pa pi th ga e2 b rt H.size q1 z1 a1 hzz1 hpp1) (cwV 1 hts gL_law_X1_setRate rfl rfl rfl (by decide +kernel) ⟨Nat.le_of_ble_eq_true rfl, Nat.le_of_ble_eq_true rfl⟩) ⟨nk_Pw.blind, va_recv hK hPm (ci := 1) (q0 := 0) rfl rfl, fun U hU hW => ⟨rfl, by rw [hU], by rw [hU]; exact hPm, va_K.moved hW.alike hK, hDm.weaken (fun _ _ _ _ => trivial)⟩⟩ rfl rfl hl.1 rfl (lv_room (Nat.le_of_ble_eq_true rfl)) dL_law_248 ⟨by show cells + 1 + 0 ≤ 1051; omega, by show slots + 6 + 0 ≤ 9300; omega⟩) hP hD hS hA [10, 11, 12, 13, 14] [0, 1, 2, 3, 4, 5, 6, 7, 8, 9, 15] rfl rfl rfl (by decide) (fun r7 w1 H locs hw9 hP hD hS hk9 => ?_)
    try simp only [halE, hlsE, hmxE] at hw9
    rcases hw9 with ⟨y1, rfl⟩ | ⟨y1, rfl, rfl⟩
    · have hP := hP.sub (ws' := wX h0 h1 h2 h3 h4 h5 h6 h7 h8 h9 cI cJ d r lc bg w rm k pn fa e1 am dd rt b pd pt tp ++ (wM g0 g1 g2 g3 g4 cI cJ d r gb w rm lc k dr pn pa pi 1 ga e2 b rt ++ [(ho, .inl (cJ, 1, .inr (.inl (og))))])) [0, 1, 2, 3, 4, 5, 6, 7, 8, 9, 11, 12, 13, 14, 15, 10] rfl
      have hD := hD.sub (ws' := wX h0 h1 h2 h3 h4 h5 h6 h7 h8 h9 cI cJ d r lc bg w rm k pn fa e1 am dd rt b pd pt tp ++ (wM g0 g1 g2 g3 g4 cI cJ d r gb w rm lc k dr pn pa pi 1 ga e2 b rt ++ [(ho, .inl (cJ, 1, .inr (.inl (og))))])) [0, 1, 2, 3, 4, 5, 6, 7, 8, 9, 11, 12, 13, 14, 15, 10] (by decide) rfl
      refine lv_istore (lv' := [(6, .int r7), (5, .int (nI 1)), (0, .ref sb), (1, .ref h0), (2, .ref g0), (3, .ref ho), (4, .int (nI i))]) hx hb dL_law_251 hl (by decide) rfl (fun ls hl => ?_)
      refine lv_aload_n hx hb dL_law_253 rfl (lv_at hl 4 rfl) ?_
      have hPt := hP.sub (ws' := wM g0 g1 g2 g3 g4 cI cJ d r gb w rm lc k dr pn pa pi 1 ga e2 b rt) [10, 11, 12, 13, 14] rfl
      refine nk_rd (W.runV (As := []) (rest := []) ⟨hx, hb, hml, hown, hts⟩ (c_X1_thrown l D g0 g1 g2 g3 g4 cI cJ d r gb w rm lc k dr pn pa pi 1 ga e2 b rt) (cwV 0 hts gL_law_X1_thrown rfl rfl rfl (by decide +kernel) ⟨Nat.le_of_ble_eq_true rfl, Nat.le_of_ble_eq_true rfl⟩) ⟨nk_Pr.blind, va_recv hK hPt (ci := 1) (q0 := 0) rfl rfl, fun U hU hW => ⟨rfl, by rw [hU]; exact hPt, va_K.moved hW.alike hK⟩⟩ rfl rfl hl.1 rfl (lv_room (Nat.le_of_ble_eq_true rfl)) dL_law_254 ⟨by show cells + 1 + 0 ≤ 1051; omega, by show slots + 6 + 0 ≤ 9300; omega⟩) ?_
      refine W.eq (g2 := F0 m 257 ls [.int (nI 1)]) rfl ?_
      refine lv_iload hx hb dL_law_257 (lv_at hl 1 rfl) ?_
      refine nk_isame (tgt := 264) hx hb rfl dL_law_259 (by decide) ?_
      refine lv_iload hx hb dL_law_264 (lv_at hl 1 rfl) ?_
      refine nk_if_ne (tgt := 281) hx hb (by decide) dL_law_266 (by decide) (fun _ => ?_) (fun c9 => absurd c9 (by decide))
      refine lv_goto (tgt := 877) hx hb dL_law_281 (by decide) ?_
      refine W.widen (k := cells + 1) (n := slots + 6) (by omega) (by omega) ?_
      exact kk _ _ _ ⟨_, _, _, _, _, _, _, _, _, _, _, _, _, _, _, _, _, _, _, _, _, _, _, _, _, hI, hP, hD⟩ hS (lv_sub hl [2, 3, 4, 5, 6] rfl)
    · exfalso; omega
set_option maxHeartbeats 8000000 in
set_option maxRecDepth 100000 in
theorem lc_draw {p : Program} {l : Launch} {e : Env} {s : State} {m : MethodId} {below : List Frame} {meth : Method} {c : Code} {sb L : Nat} {xs : Nat → Int32} {D : va_G} {h0 h1 h2 h3 h4 h5 h6 h7 h8 h9 g0 g1 g2 g3 g4 ho : Nat} {cI cJ : ClassId} {H : Heap} {locs : List Loc} {cells slots : Nat} {Q : State → Prop} {ls : Array Slot} {i : Nat}
    (C0 : lw_At p s m meth c sb L xs) (hfl : l.stackTraces = false) (hK : va_K D vwCl (tX cI cJ) s) (hZ : nk_Z (fun q : Nat => s.heap.size ≤ q) s s.heap) (hc9 : cells + 1 ≤ 1051) (hs9 : slots + 6 ≤ 9300) (hi5 : i + 5 ≤ L) (hL : L ≤ 2560) (hSt : nk_St D (fun q : Nat => s.heap.size ≤ q) h0 h1 h2 h3 h4 h5 h6 h7 h8 h9 g0 g1 g2 g3 g4 ho cI cJ H) (hS : va_S (fun q : Nat => s.heap.size ≤ q) s.heap H locs) (hl : lv_has ls 8 [(0, .ref sb), (1, .ref h0), (2, .ref g0), (3, .ref ho), (4, .int (nI i))])
    (kk : ∀ (H1 : Heap) (locs1 : List Loc) (ls1 : Array Slot), nk_St D (fun q : Nat => s.heap.size ≤ q) h0 h1 h2 h3 h4 h5 h6 h7 h8 h9 g0 g1 g2 g3 g4 ho cI cJ H1 → va_S (fun q : Nat => s.heap.size ≤ q) s.heap H1 locs1 → lv_has ls1 8 [(0, .ref sb), (1, .ref h0), (2, .ref g0), (3, .ref ho), (4, .int (nI i))] → W p l e room_1 s m #[Value.ref sb] below meth c H1 locs1 (cells + 1) (slots + 6) Q (F0 m 877 ls1 [])) : W p l e room_1 s m #[Value.ref sb] below meth c H locs cells slots Q (F0 m 284 ls []) := by
  obtain ⟨hx, hb, hr, hml, hown, hts0, hX, hbl, hlocks, hgv⟩ := C0
  have hts : ∀ w ∈ wsL_law, w.before #[Value.ref sb] s = true := fun w h => hts0 w (wsL_law_in w h)
  have hown : s.vm.findClass RL = some m.cls := hown
  have hA : ∀ q : Nat, s.heap.size ≤ q → (fun q : Nat => s.heap.size ≤ q) q := fun _ h => h
  have hbA : ¬ (fun q : Nat => s.heap.size ≤ q) sb := Nat.not_le.mpr hbl
  obtain ⟨d, r, lc, bg, w, rm, k, pn, fa, e1, am, dd, rt, b, pd, pt, tp, gb, dr, pa, pi, ga, e2, th, og, hI, hP, hD⟩ := hSt
  obtain ⟨hlc, hd, hk, hpn, hbg, hw, hrm, he, hed, hfa, ham, hpd, hpd2, hpt, hbs, hb9, hrt, hdd, hroll, hh1, hh2, hh3, htp, hsa, hk0, he2, he2d, hga, hgb, hgb2, hpi, hdr, hpa1, he20, he21, hk0m, he28, hgbz, halE, hmxE, hlsE⟩ := Inv_f hI
  have hgbp : 0 < gb ↔ 0 < lc := by omega
  obtain ⟨q1, hq1⟩ : ∃ q, xs (i + 1) = q := ⟨_, rfl⟩
  obtain ⟨z1, hzz1⟩ : ∃ z, q1.toInt = z := ⟨_, rfl⟩
  obtain ⟨a1, hpp1, hza1⟩ := nk_arg hzz1
  refine lv_aload_n hx hb dL_law_284 rfl (lv_at hl 1 rfl) ?_
  refine lv_aload_n hx hb dL_law_285 rfl (lv_at hl 0 rfl) ?_
  refine lv_iload hx hb dL_law_286 (lv_at hl 4 rfl) ?_
  refine lv_iconst (v := nI 1) hx hb dL_law_288 (by decide +kernel) ?_
  refine nk_iadd hx hb dL_law_289 ?_
  refine va_sld hx hb hX hbl hbA hS (vp_in_nI (by omega) (by omega)) dL_law_290 ?_
  refine nk_topi (y := q1) (by rw [nI_clamp (by omega)]; exact hq1) ?_
  refine lv_aload_n hx hb dL_law_291 rfl (lv_at hl 3 rfl) ?_
  have hPc := hP.sub (ws' := wX h0 h1 h2 h3 h4 h5 h6 h7 h8 h9 cI cJ d r lc bg w rm k pn fa e1 am dd rt b pd pt tp ++ [(ho, .inl (cJ, 1, .inr (.inl (og))))]) [0, 1, 2, 3, 4, 5, 6, 7, 8, 9, 15] rfl
  have hDc := hD.sub (ws' := wX h0 h1 h2 h3 h4 h5 h6 h7 h8 h9 cI cJ d r lc bg w rm k pn fa e1 am dd rt b pd pt tp ++ [(ho, .inl (cJ, 1, .inr (.inl (og))))]) [0, 1, 2, 3, 4, 5, 6, 7, 8, 9, 15] (by decide) rfl
  have hFc := va_free (wc := wX h0 h1 h2 h3 h4 h5 h6 h7 h8 h9 cI cJ d r lc bg w rm k pn fa e1 am dd rt b pd pt tp ++ [(ho, .inl (cJ, 1, .inr (.inl (og))))]) hD hS hA [0, 1, 2, 3, 4, 5, 6, 7, 8, 9, 15] rfl
  have hZH := hZ.kept hS.2.1
  refine nk_icall (mc := 1) (ms := 6) (wr := wM g0 g1 g2 g3 g4 cI cJ d r gb w rm lc k dr pn pa pi th ga e2 b rt) (vx_runSW (As := [.ref h0, .int q1, .ref ho]) (rest := []) ⟨hx, hb, hml, hown, hts⟩ (c_L_draw l hfl D h0 h1 h2 h3 h4 h5 h6 h7 h8 h9 cI cJ d r lc bg w rm k pn fa e1 am dd rt b pd pt tp ho og H.size q1 z1 a1 hzz1 hpp1 hlc he hk hrm) (vx_cwSW 3 hts gL_law_L_draw rfl rfl rfl (by decide +kernel) ⟨Nat.le_of_ble_eq_true rfl, Nat.le_of_ble_eq_true rfl⟩) ⟨nk_Px.blind, fun U hU hW => ⟨rfl, by rw [hU], by rw [hU]; exact hPc, va_K.moved hW.alike hK, hDc.weaken (fun _ _ _ _ => trivial), by rw [hU]; exact nk_Z.go hZH hW (fun q h => hFc q h)⟩⟩ rfl rfl hl.1 rfl (lv_room (Nat.le_of_ble_eq_true rfl)) dL_law_292 ⟨by show cells + 1 ≤ 1051; omega, by show slots + 6 ≤ 9300; omega⟩) hP hD hS hA [0, 1, 2, 3, 4, 5, 6, 7, 8, 9, 15] [10, 11, 12, 13, 14] rfl rfl rfl (by decide) (fun r9 w1 H locs hw9 hP hD hS hk9 => ?_)
  rcases hw9 with ⟨rfl, r8, w2, ⟨x1, x2, x3, rfl, rfl⟩, rfl⟩ | ⟨rfl, x1, rfl⟩ | ⟨rfl, x1, rfl⟩
  · have hP := hP.sub (ws' := wX h0 h1 h2 h3 h4 h5 h6 h7 h8 h9 cI cJ d r lc bg w (rm - a1) (k + 1) pn fa e1 (va_up am k a1) (va_up dd k d) (va_up rt k r) (va_up b k (a1 * 10000)) pd pt tp ++ (wM g0 g1 g2 g3 g4 cI cJ d r gb w rm lc k dr pn pa pi th ga e2 b rt ++ [(ho, .inl (cJ, 1, .inr (.inl (vp_updL og 0 ((nI (rm - a1)).toInt64)))))])) [6, 7, 8, 9, 10, 11, 12, 13, 14, 15, 0, 1, 2, 3, 4, 5] rfl
    have hD := hD.sub (ws' := wX h0 h1 h2 h3 h4 h5 h6 h7 h8 h9 cI cJ d r lc bg w (rm - a1) (k + 1) pn fa e1 (va_up am k a1) (va_up dd k d) (va_up rt k r) (va_up b k (a1 * 10000)) pd pt tp ++ (wM g0 g1 g2 g3 g4 cI cJ d r gb w rm lc k dr pn pa pi th ga e2 b rt ++ [(ho, .inl (cJ, 1, .inr (.inl (vp_updL og 0 ((nI (rm - a1)).toInt64)))))])) [6, 7, 8, 9, 10, 11, 12, 13, 14, 15, 0, 1, 2, 3, 4, 5] (by decide) rfl
    refine lv_istore (lv' := [(5, .int (nI 0)), (0, .ref sb), (1, .ref h0), (2, .ref g0), (3, .ref ho), (4, .int (nI i))]) hx hb dL_law_295 hl (by decide) rfl (fun ls hl => ?_)
    refine lv_aload_n hx hb dL_law_297 rfl (lv_at hl 3 rfl) ?_
    refine lv_aload_n hx hb dL_law_298 rfl (lv_at hl 1 rfl) ?_
    refine lv_iload hx hb dL_law_299 (lv_at hl 5 rfl) ?_
    refine lv_iconst (v := nI 1) hx hb dL_law_301 (by decide +kernel) ?_
    refine nk_iadd hx hb dL_law_302 ?_
    refine va_sld hx hb hX hbl hbA hS (vp_in_nI (by omega) (by omega)) dL_law_303 ?_
    refine nk_topi (y := q1) (by rw [nI_clamp (by omega)]; exact hq1) ?_
    have hPm := hP.sub (ws' := wM g0 g1 g2 g3 g4 cI cJ d r gb w rm lc k dr pn pa pi th ga e2 b rt) [10, 11, 12, 13, 14] rfl
    have hDm := hD.sub (ws' := wM g0 g1 g2 g3 g4 cI cJ d r gb w rm lc k dr pn pa pi th ga e2 b rt) [10, 11, 12, 13, 14] (by decide) rfl
    refine nk_icall (wr := wX h0 h1 h2 h3 h4 h5 h6 h7 h8 h9 cI cJ d r lc bg w (rm - a1) (k + 1) pn fa e1 (va_up am k a1) (va_up dd k d) (va_up rt k r) (va_up b k (a1 * 10000)) pd pt tp ++ [(ho, .inl (cJ, 1, .inr (.inl (vp_updL og 0 ((nI (rm - a1)).toInt64)))))]) (va_runV (As := [.int q1]) (rest := []) ⟨hx, hb, hml, hown, hts⟩ (c_X1_draw l D g0 g1 g2 g3 g4 cI cJ d r gb w rm lc k dr pn pa pi th ga e2 b rt H.size q1 z1 a1 hzz1 hpp1 hgb2 hlc he2 hk hrm) (cwV 1 hts gL_law_X1_draw rfl rfl rfl (by decide +kernel) ⟨Nat.le_of_ble_eq_true rfl, Nat.le_of_ble_eq_true rfl⟩) ⟨nk_Pw.blind, va_recv hK hPm (ci := 1) (q0 := 0) rfl rfl, fun U hU hW => ⟨rfl, by rw [hU], by rw [hU]; exact hPm, va_K.moved hW.alike hK, hDm.weaken (fun _ _ _ _ => trivial)⟩⟩ rfl rfl hl.1 rfl (lv_room (Nat.le_of_ble_eq_true rfl)) dL_law_304 ⟨by show cells + 1 + 0 ≤ 1051; omega, by show slots + 6 + 0 ≤ 9300; omega⟩) hP hD hS hA [10, 11, 12, 13, 14] [0, 1, 2, 3, 4, 5, 6, 7, 8, 9, 15] rfl rfl rfl (by decide) (fun r7 w1 H locs hw9 hP hD hS hk9 => ?_)
    try simp only [halE, hlsE, hmxE] at hw9
    rcases hw9 with ⟨y1, rfl⟩ | ⟨y1, y2, rfl⟩ | ⟨y1, y2, rfl, rfl⟩
    · exfalso; omega
    · exfalso; omega
    · have hP := hP.sub (ws' := wX h0 h1 h2 h3 h4 h5 h6 h7 h8 h9 cI cJ d r lc bg w (rm - a1) (k + 1) pn fa e1 (va_up am k a1) (va_up dd k d) (va_up rt k r) (va_up b k (a1 * 10000)) pd pt tp ++ (wM g0 g1 g2 g3 g4 cI cJ d r gb w (rm - a1) lc (k + 1) (dr + a1) pn pa pi 0 ga e2 (va_up b k (a1 * 10000)) (va_up rt k r) ++ [(ho, .inl (cJ, 1, .inr (.inl (vp_updL og 0 ((nI (rm - a1)).toInt64)))))])) [0, 1, 2, 3, 4, 5, 6, 7, 8, 9, 11, 12, 13, 14, 15, 10] rfl
      have hD := hD.sub (ws' := wX h0 h1 h2 h3 h4 h5 h6 h7 h8 h9 cI cJ d r lc bg w (rm - a1) (k + 1) pn fa e1 (va_up am k a1) (va_up dd k d) (va_up rt k r) (va_up b k (a1 * 10000)) pd pt tp ++ (wM g0 g1 g2 g3 g4 cI cJ d r gb w (rm - a1) lc (k + 1) (dr + a1) pn pa pi 0 ga e2 (va_up b k (a1 * 10000)) (va_up rt k r) ++ [(ho, .inl (cJ, 1, .inr (.inl (vp_updL og 0 ((nI (rm - a1)).toInt64)))))])) [0, 1, 2, 3, 4, 5, 6, 7, 8, 9, 11, 12, 13, 14, 15, 10] (by decide) rfl
      refine lv_istore (lv' := [(6, .int (nI (rm - a1))), (5, .int (nI 0)), (0, .ref sb), (1, .ref h0), (2, .ref g0), (3, .ref ho), (4, .int (nI i))]) hx hb dL_law_307 hl (by decide) rfl (fun ls hl => ?_)
      refine lv_aload_n hx hb dL_law_309 rfl (lv_at hl 4 rfl) ?_
      have hPt := hP.sub (ws' := wM g0 g1 g2 g3 g4 cI cJ d r gb w (rm - a1) lc (k + 1) (dr + a1) pn pa pi 0 ga e2 (va_up b k (a1 * 10000)) (va_up rt k r)) [10, 11, 12, 13, 14] rfl
      refine nk_rd (W.runV (As := []) (rest := []) ⟨hx, hb, hml, hown, hts⟩ (c_X1_thrown l D g0 g1 g2 g3 g4 cI cJ d r gb w (rm - a1) lc (k + 1) (dr + a1) pn pa pi 0 ga e2 (va_up b k (a1 * 10000)) (va_up rt k r)) (cwV 0 hts gL_law_X1_thrown rfl rfl rfl (by decide +kernel) ⟨Nat.le_of_ble_eq_true rfl, Nat.le_of_ble_eq_true rfl⟩) ⟨nk_Pr.blind, va_recv hK hPt (ci := 1) (q0 := 0) rfl rfl, fun U hU hW => ⟨rfl, by rw [hU]; exact hPt, va_K.moved hW.alike hK⟩⟩ rfl rfl hl.1 rfl (lv_room (Nat.le_of_ble_eq_true rfl)) dL_law_310 ⟨by show cells + 1 + 0 ≤ 1051; omega, by show slots + 6 + 0 ≤ 9300; omega⟩) ?_
      refine W.eq (g2 := F0 m 313 ls [.int (nI 0)]) rfl ?_
      refine lv_iload hx hb dL_law_313 (lv_at hl 1 rfl) ?_
      refine nk_isame (tgt := 320) hx hb rfl dL_law_315 (by decide) ?_
      refine lv_iload hx hb dL_law_320 (lv_at hl 1 rfl) ?_
      refine nk_if_ne (tgt := 337) hx hb (by decide) dL_law_322 (by decide) (fun c9 => absurd c9 (by decide)) (fun _ => ?_)
      refine lv_aload_n hx hb dL_law_325 rfl (lv_at hl 5 rfl) ?_
      refine lv_iconst (v := nI 0) hx hb dL_law_326 (by decide +kernel) ?_
      refine va_lald hx hb hK hP 15 1 rfl rfl (vp_in_nI (by decide) (by decide)) dL_law_327 ?_
      refine nk_topl (y := (nI (rm - a1)).toInt64) nk_out ?_
      refine lv_iload hx hb dL_law_328 (lv_at hl 0 rfl) ?_
      refine lv_i2l hx hb dL_law_330 rfl ?_
      refine nk_lsame (tgt := 337) hx hb rfl dL_law_331 dL_law_332 (by decide) ?_
      refine lv_goto (tgt := 877) hx hb dL_law_337 (by decide) ?_
      refine W.widen (k := cells + 1) (n := slots + 6) (by omega) (by omega) ?_
      exact kk _ _ _ ⟨_, _, _, _, _, _, _, _, _, _, _, _, _, _, _, _, _, _, _, _, _, _, _, _, _, Inv_draw hI x3.1 x3.2 x2.1 x2.2, hP, hD⟩ hS (lv_sub hl [2, 3, 4, 5, 6] rfl)
  · have hP := hP.sub (ws' := wX h0 h1 h2 h3 h4 h5 h6 h7 h8 h9 cI cJ d r lc bg w rm k pn fa e1 am dd rt b pd pt tp ++ (wM g0 g1 g2 g3 g4 cI cJ d r gb w rm lc k dr pn pa pi th ga e2 b rt ++ [(ho, .inl (cJ, 1, .inr (.inl (og))))])) [6, 7, 8, 9, 10, 11, 12, 13, 14, 15, 0, 1, 2, 3, 4, 5] rfl
    have hD := hD.sub (ws' := wX h0 h1 h2 h3 h4 h5 h6 h7 h8 h9 cI cJ d r lc bg w rm k pn fa e1 am dd rt b pd pt tp ++ (wM g0 g1 g2 g3 g4 cI cJ d r gb w rm lc k dr pn pa pi th ga e2 b rt ++ [(ho, .inl (cJ, 1, .inr (.inl (og))))])) [6, 7, 8, 9, 10, 11, 12, 13, 14, 15, 0, 1, 2, 3, 4, 5] (by decide) rfl
    refine lv_istore (lv' := [(5, .int (nI 1)), (0, .ref sb), (1, .ref h0), (2, .ref g0), (3, .ref ho), (4, .int (nI i))]) hx hb dL_law_295 hl (by decide) rfl (fun ls hl => ?_)
    refine lv_aload_n hx hb dL_law_297 rfl (lv_at hl 3 rfl) ?_
    refine lv_aload_n hx hb dL_law_298 rfl (lv_at hl 1 rfl) ?_
    refine lv_iload hx hb dL_law_299 (lv_at hl 5 rfl) ?_
    refine lv_iconst (v := nI 1) hx hb dL_law_301 (by decide +kernel) ?_
    refine nk_iadd hx hb dL_law_302 ?_
    refine va_sld hx hb hX hbl hbA hS (vp_in_nI (by omega) (by omega)) dL_law_303 ?_
    refine nk_topi (y := q1) (by rw [nI_clamp (by omega)]; exact hq1) ?_
    have hPm := hP.sub (ws' := wM g0 g1 g2 g3 g4 cI cJ d r gb w rm lc k dr pn pa pi th ga e2 b rt) [10, 11, 12, 13, 14] rfl
    have hDm := hD.sub (ws' := wM g0 g1 g2 g3 g4 cI cJ d r gb w rm lc k dr pn pa pi th ga e2 b rt) [10, 11, 12, 13, 14] (by decide) rfl
    refine nk_icall (wr := wX h0 h1 h2 h3 h4 h5 h6 h7 h8 h9 cI cJ d r lc bg w rm k pn fa e1 am dd rt b pd pt tp ++ [(ho, .inl (cJ, 1, .inr (.inl (og))))]) (va_runV (As := [.int q1]) (rest := []) ⟨hx, hb, hml, hown, hts⟩ (c_X1_draw l D g0 g1 g2 g3 g4 cI cJ d r gb w rm lc k dr pn pa pi th ga e2 b rt H.size q1 z1 a1 hzz1 hpp1 hgb2 hlc he2 hk hrm) (cwV 1 hts gL_law_X1_draw rfl rfl rfl (by decide +kernel) ⟨Nat.le_of_ble_eq_true rfl, Nat.le_of_ble_eq_true rfl⟩) ⟨nk_Pw.blind, va_recv hK hPm (ci := 1) (q0 := 0) rfl rfl, fun U hU hW => ⟨rfl, by rw [hU], by rw [hU]; exact hPm, va_K.moved hW.alike hK, hDm.weaken (fun _ _ _ _ => trivial)⟩⟩ rfl rfl hl.1 rfl (lv_room (Nat.le_of_ble_eq_true rfl)) dL_law_304 ⟨by show cells + 1 + 0 ≤ 1051; omega, by show slots + 6 + 0 ≤ 9300; omega⟩) hP hD hS hA [10, 11, 12, 13, 14] [0, 1, 2, 3, 4, 5, 6, 7, 8, 9, 15] rfl rfl rfl (by decide) (fun r7 w1 H locs hw9 hP hD hS hk9 => ?_)
    try simp only [halE, hlsE, hmxE] at hw9
    rcases hw9 with ⟨y1, rfl⟩ | ⟨y1, y2, rfl⟩ | ⟨y1, y2, rfl, rfl⟩
    · have hP := hP.sub (ws' := wX h0 h1 h2 h3 h4 h5 h6 h7 h8 h9 cI cJ d r lc bg w rm k pn fa e1 am dd rt b pd pt tp ++ (wM g0 g1 g2 g3 g4 cI cJ d r gb w rm lc k dr pn pa pi 1 ga e2 b rt ++ [(ho, .inl (cJ, 1, .inr (.inl (og))))])) [0, 1, 2, 3, 4, 5, 6, 7, 8, 9, 11, 12, 13, 14, 15, 10] rfl
      have hD := hD.sub (ws' := wX h0 h1 h2 h3 h4 h5 h6 h7 h8 h9 cI cJ d r lc bg w rm k pn fa e1 am dd rt b pd pt tp ++ (wM g0 g1 g2 g3 g4 cI cJ d r gb w rm lc k dr pn pa pi 1 ga e2 b rt ++ [(ho, .inl (cJ, 1, .inr (.inl (og))))])) [0, 1, 2, 3, 4, 5, 6, 7, 8, 9, 11, 12, 13, 14, 15, 10] (by decide) rfl
      refine lv_istore (lv' := [(6, .int r7), (5, .int (nI 1)), (0, .ref sb), (1, .ref h0), (2, .ref g0), (3, .ref ho), (4, .int (nI i))]) hx hb dL_law_307 hl (by decide) rfl (fun ls hl => ?_)
      refine lv_aload_n hx hb dL_law_309 rfl (lv_at hl 4 rfl) ?_
      have hPt := hP.sub (ws' := wM g0 g1 g2 g3 g4 cI cJ d r gb w rm lc k dr pn pa pi 1 ga e2 b rt) [10, 11, 12, 13, 14] rfl
      refine nk_rd (W.runV (As := []) (rest := []) ⟨hx, hb, hml, hown, hts⟩ (c_X1_thrown l D g0 g1 g2 g3 g4 cI cJ d r gb w rm lc k dr pn pa pi 1 ga e2 b rt) (cwV 0 hts gL_law_X1_thrown rfl rfl rfl (by decide +kernel) ⟨Nat.le_of_ble_eq_true rfl, Nat.le_of_ble_eq_true rfl⟩) ⟨nk_Pr.blind, va_recv hK hPt (ci := 1) (q0 := 0) rfl rfl, fun U hU hW => ⟨rfl, by rw [hU]; exact hPt, va_K.moved hW.alike hK⟩⟩ rfl rfl hl.1 rfl (lv_room (Nat.le_of_ble_eq_true rfl)) dL_law_310 ⟨by show cells + 1 + 0 ≤ 1051; omega, by show slots + 6 + 0 ≤ 9300; omega⟩) ?_
      refine W.eq (g2 := F0 m 313 ls [.int (nI 1)]) rfl ?_
      refine lv_iload hx hb dL_law_313 (lv_at hl 1 rfl) ?_
      refine nk_isame (tgt := 320) hx hb rfl dL_law_315 (by decide) ?_
      refine lv_iload hx hb dL_law_320 (lv_at hl 1 rfl) ?_
      refine nk_if_ne (tgt := 337) hx hb (by decide) dL_law_322 (by decide) (fun _ => ?_) (fun c9 => absurd c9 (by decide))
      refine lv_goto (tgt := 877) hx hb dL_law_337 (by decide) ?_
      refine W.widen (k := cells + 1) (n := slots + 6) (by omega) (by omega) ?_
      exact kk _ _ _ ⟨_, _, _, _, _, _, _, _, _, _, _, _, _, _, _, _, _, _, _, _, _, _, _, _, _, hI, hP, hD⟩ hS (lv_sub hl [2, 3, 4, 5, 6] rfl)
    · exfalso; omega
    · exfalso; omega
  · have hP := hP.sub (ws' := wX h0 h1 h2 h3 h4 h5 h6 h7 h8 h9 cI cJ d r lc bg w rm k pn fa e1 am dd rt b pd pt tp ++ (wM g0 g1 g2 g3 g4 cI cJ d r gb w rm lc k dr pn pa pi th ga e2 b rt ++ [(ho, .inl (cJ, 1, .inr (.inl (og))))])) [6, 7, 8, 9, 10, 11, 12, 13, 14, 15, 0, 1, 2, 3, 4, 5] rfl
    have hD := hD.sub (ws' := wX h0 h1 h2 h3 h4 h5 h6 h7 h8 h9 cI cJ d r lc bg w rm k pn fa e1 am dd rt b pd pt tp ++ (wM g0 g1 g2 g3 g4 cI cJ d r gb w rm lc k dr pn pa pi th ga e2 b rt ++ [(ho, .inl (cJ, 1, .inr (.inl (og))))])) [6, 7, 8, 9, 10, 11, 12, 13, 14, 15, 0, 1, 2, 3, 4, 5] (by decide) rfl
    refine lv_istore (lv' := [(5, .int (nI 2)), (0, .ref sb), (1, .ref h0), (2, .ref g0), (3, .ref ho), (4, .int (nI i))]) hx hb dL_law_295 hl (by decide) rfl (fun ls hl => ?_)
    refine lv_aload_n hx hb dL_law_297 rfl (lv_at hl 3 rfl) ?_
    refine lv_aload_n hx hb dL_law_298 rfl (lv_at hl 1 rfl) ?_
    refine lv_iload hx hb dL_law_299 (lv_at hl 5 rfl) ?_
    refine lv_iconst (v := nI 1) hx hb dL_law_301 (by decide +kernel) ?_
    refine nk_iadd hx hb dL_law_302 ?_
    refine va_sld hx hb hX hbl hbA hS (vp_in_nI (by omega) (by omega)) dL_law_303 ?_
    refine nk_topi (y := q1) (by rw [nI_clamp (by omega)]; exact hq1) ?_
    have hPm := hP.sub (ws' := wM g0 g1 g2 g3 g4 cI cJ d r gb w rm lc k dr pn pa pi th ga e2 b rt) [10, 11, 12, 13, 14] rfl
    have hDm := hD.sub (ws' := wM g0 g1 g2 g3 g4 cI cJ d r gb w rm lc k dr pn pa pi th ga e2 b rt) [10, 11, 12, 13, 14] (by decide) rfl
    refine nk_icall (wr := wX h0 h1 h2 h3 h4 h5 h6 h7 h8 h9 cI cJ d r lc bg w rm k pn fa e1 am dd rt b pd pt tp ++ [(ho, .inl (cJ, 1, .inr (.inl (og))))]) (va_runV (As := [.int q1]) (rest := []) ⟨hx, hb, hml, hown, hts⟩ (c_X1_draw l D g0 g1 g2 g3 g4 cI cJ d r gb w rm lc k dr pn pa pi th ga e2 b rt H.size q1 z1 a1 hzz1 hpp1 hgb2 hlc he2 hk hrm) (cwV 1 hts gL_law_X1_draw rfl rfl rfl (by decide +kernel) ⟨Nat.le_of_ble_eq_true rfl, Nat.le_of_ble_eq_true rfl⟩) ⟨nk_Pw.blind, va_recv hK hPm (ci := 1) (q0 := 0) rfl rfl, fun U hU hW => ⟨rfl, by rw [hU], by rw [hU]; exact hPm, va_K.moved hW.alike hK, hDm.weaken (fun _ _ _ _ => trivial)⟩⟩ rfl rfl hl.1 rfl (lv_room (Nat.le_of_ble_eq_true rfl)) dL_law_304 ⟨by show cells + 1 + 0 ≤ 1051; omega, by show slots + 6 + 0 ≤ 9300; omega⟩) hP hD hS hA [10, 11, 12, 13, 14] [0, 1, 2, 3, 4, 5, 6, 7, 8, 9, 15] rfl rfl rfl (by decide) (fun r7 w1 H locs hw9 hP hD hS hk9 => ?_)
    try simp only [halE, hlsE, hmxE] at hw9
    rcases hw9 with ⟨y1, rfl⟩ | ⟨y1, y2, rfl⟩ | ⟨y1, y2, rfl, rfl⟩
    · exfalso; omega
    · have hP := hP.sub (ws' := wX h0 h1 h2 h3 h4 h5 h6 h7 h8 h9 cI cJ d r lc bg w rm k pn fa e1 am dd rt b pd pt tp ++ (wM g0 g1 g2 g3 g4 cI cJ d r gb w rm lc k dr pn pa pi 2 ga e2 b rt ++ [(ho, .inl (cJ, 1, .inr (.inl (og))))])) [0, 1, 2, 3, 4, 5, 6, 7, 8, 9, 11, 12, 13, 14, 15, 10] rfl
      have hD := hD.sub (ws' := wX h0 h1 h2 h3 h4 h5 h6 h7 h8 h9 cI cJ d r lc bg w rm k pn fa e1 am dd rt b pd pt tp ++ (wM g0 g1 g2 g3 g4 cI cJ d r gb w rm lc k dr pn pa pi 2 ga e2 b rt ++ [(ho, .inl (cJ, 1, .inr (.inl (og))))])) [0, 1, 2, 3, 4, 5, 6, 7, 8, 9, 11, 12, 13, 14, 15, 10] (by decide) rfl
      refine lv_istore (lv' := [(6, .int r7), (5, .int (nI 2)), (0, .ref sb), (1, .ref h0), (2, .ref g0), (3, .ref ho), (4, .int (nI i))]) hx hb dL_law_307 hl (by decide) rfl (fun ls hl => ?_)
      refine lv_aload_n hx hb dL_law_309 rfl (lv_at hl 4 rfl) ?_
      have hPt := hP.sub (ws' := wM g0 g1 g2 g3 g4 cI cJ d r gb w rm lc k dr pn pa pi 2 ga e2 b rt) [10, 11, 12, 13, 14] rfl
      refine nk_rd (W.runV (As := []) (rest := []) ⟨hx, hb, hml, hown, hts⟩ (c_X1_thrown l D g0 g1 g2 g3 g4 cI cJ d r gb w rm lc k dr pn pa pi 2 ga e2 b rt) (cwV 0 hts gL_law_X1_thrown rfl rfl rfl (by decide +kernel) ⟨Nat.le_of_ble_eq_true rfl, Nat.le_of_ble_eq_true rfl⟩) ⟨nk_Pr.blind, va_recv hK hPt (ci := 1) (q0 := 0) rfl rfl, fun U hU hW => ⟨rfl, by rw [hU]; exact hPt, va_K.moved hW.alike hK⟩⟩ rfl rfl hl.1 rfl (lv_room (Nat.le_of_ble_eq_true rfl)) dL_law_310 ⟨by show cells + 1 + 0 ≤ 1051; omega, by show slots + 6 + 0 ≤ 9300; omega⟩) ?_
      refine W.eq (g2 := F0 m 313 ls [.int (nI 2)]) rfl ?_
      refine lv_iload hx hb dL_law_313 (lv_at hl 1 rfl) ?_
      refine nk_isame (tgt := 320) hx hb rfl dL_law_315 (by decide) ?_
      refine lv_iload hx hb dL_law_320 (lv_at hl 1 rfl) ?_
      refine nk_if_ne (tgt := 337) hx hb (by decide) dL_law_322 (by decide) (fun _ => ?_) (fun c9 => absurd c9 (by decide))
      refine lv_goto (tgt := 877) hx hb dL_law_337 (by decide) ?_
      refine W.widen (k := cells + 1) (n := slots + 6) (by omega) (by omega) ?_
      exact kk _ _ _ ⟨_, _, _, _, _, _, _, _, _, _, _, _, _, _, _, _, _, _, _, _, _, _, _, _, _, hI, hP, hD⟩ hS (lv_sub hl [2, 3, 4, 5, 6] rfl)
    · exfalso; omega
set_option maxHeartbeats 8000000 in
set_option maxRecDepth 100000 in
theorem lc_pay {p : Program} {l : Launch} {e : Env} {s : State} {m : MethodId} {below : List Frame} {meth : Method} {c : Code} {sb L : Nat} {xs : Nat → Int32} {D : va_G} {h0 h1 h2 h3 h4 h5 h6 h7 h8 h9 g0 g1 g2 g3 g4 ho : Nat} {cI cJ : ClassId} {H : Heap} {locs : List Loc} {cells slots : Nat} {Q : State → Prop} {ls : Array Slot} {i : Nat}
    (C0 : lw_At p s m meth c sb L xs) (hfl : l.stackTraces = false) (hK : va_K D vwCl (tX cI cJ) s) (hZ : nk_Z (fun q : Nat => s.heap.size ≤ q) s s.heap) (hc9 : cells + 1 ≤ 1051) (hs9 : slots + 6 ≤ 9300) (hi5 : i + 5 ≤ L) (hL : L ≤ 2560) (hSt : nk_St D (fun q : Nat => s.heap.size ≤ q) h0 h1 h2 h3 h4 h5 h6 h7 h8 h9 g0 g1 g2 g3 g4 ho cI cJ H) (hS : va_S (fun q : Nat => s.heap.size ≤ q) s.heap H locs) (hl : lv_has ls 8 [(0, .ref sb), (1, .ref h0), (2, .ref g0), (3, .ref ho), (4, .int (nI i))])
    (kk : ∀ (H1 : Heap) (locs1 : List Loc) (ls1 : Array Slot), nk_St D (fun q : Nat => s.heap.size ≤ q) h0 h1 h2 h3 h4 h5 h6 h7 h8 h9 g0 g1 g2 g3 g4 ho cI cJ H1 → va_S (fun q : Nat => s.heap.size ≤ q) s.heap H1 locs1 → lv_has ls1 8 [(0, .ref sb), (1, .ref h0), (2, .ref g0), (3, .ref ho), (4, .int (nI i))] → W p l e room_1 s m #[Value.ref sb] below meth c H1 locs1 (cells + 1) (slots + 6) Q (F0 m 877 ls1 [])) : W p l e room_1 s m #[Value.ref sb] below meth c H locs cells slots Q (F0 m 340 ls []) := by
  obtain ⟨hx, hb, hr, hml, hown, hts0, hX, hbl, hlocks, hgv⟩ := C0
  have hts : ∀ w ∈ wsL_law, w.before #[Value.ref sb] s = true := fun w h => hts0 w (wsL_law_in w h)
  have hown : s.vm.findClass RL = some m.cls := hown
  have hA : ∀ q : Nat, s.heap.size ≤ q → (fun q : Nat => s.heap.size ≤ q) q := fun _ h => h
  have hbA : ¬ (fun q : Nat => s.heap.size ≤ q) sb := Nat.not_le.mpr hbl
  obtain ⟨d, r, lc, bg, w, rm, k, pn, fa, e1, am, dd, rt, b, pd, pt, tp, gb, dr, pa, pi, ga, e2, th, og, hI, hP, hD⟩ := hSt
  obtain ⟨hlc, hd, hk, hpn, hbg, hw, hrm, he, hed, hfa, ham, hpd, hpd2, hpt, hbs, hb9, hrt, hdd, hroll, hh1, hh2, hh3, htp, hsa, hk0, he2, he2d, hga, hgb, hgb2, hpi, hdr, hpa1, he20, he21, hk0m, he28, hgbz, halE, hmxE, hlsE⟩ := Inv_f hI
  have hgbp : 0 < gb ↔ 0 < lc := by omega
  obtain ⟨q1, hq1⟩ : ∃ q, xs (i + 1) = q := ⟨_, rfl⟩
  obtain ⟨z1, hzz1⟩ : ∃ z, q1.toInt = z := ⟨_, rfl⟩
  obtain ⟨a1, hpp1, hza1⟩ := nk_arg hzz1
  refine lv_aload_n hx hb dL_law_340 rfl (lv_at hl 1 rfl) ?_
  refine lv_aload_n hx hb dL_law_341 rfl (lv_at hl 0 rfl) ?_
  refine lv_iload hx hb dL_law_342 (lv_at hl 4 rfl) ?_
  refine lv_iconst (v := nI 1) hx hb dL_law_344 (by decide +kernel) ?_
  refine nk_iadd hx hb dL_law_345 ?_
  refine va_sld hx hb hX hbl hbA hS (vp_in_nI (by omega) (by omega)) dL_law_346 ?_
  refine nk_topi (y := q1) (by rw [nI_clamp (by omega)]; exact hq1) ?_
  refine lv_aload_n hx hb dL_law_347 rfl (lv_at hl 3 rfl) ?_
  have hPc := hP.sub (ws' := wX h0 h1 h2 h3 h4 h5 h6 h7 h8 h9 cI cJ d r lc bg w rm k pn fa e1 am dd rt b pd pt tp ++ [(ho, .inl (cJ, 1, .inr (.inl (og))))]) [0, 1, 2, 3, 4, 5, 6, 7, 8, 9, 15] rfl
  have hDc := hD.sub (ws' := wX h0 h1 h2 h3 h4 h5 h6 h7 h8 h9 cI cJ d r lc bg w rm k pn fa e1 am dd rt b pd pt tp ++ [(ho, .inl (cJ, 1, .inr (.inl (og))))]) [0, 1, 2, 3, 4, 5, 6, 7, 8, 9, 15] (by decide) rfl
  have hFc := va_free (wc := wX h0 h1 h2 h3 h4 h5 h6 h7 h8 h9 cI cJ d r lc bg w rm k pn fa e1 am dd rt b pd pt tp ++ [(ho, .inl (cJ, 1, .inr (.inl (og))))]) hD hS hA [0, 1, 2, 3, 4, 5, 6, 7, 8, 9, 15] rfl
  have hZH := hZ.kept hS.2.1
  refine nk_icall (mc := 1) (ms := 6) (wr := wM g0 g1 g2 g3 g4 cI cJ d r gb w rm lc k dr pn pa pi th ga e2 b rt) (vx_runSW (As := [.ref h0, .int q1, .ref ho]) (rest := []) ⟨hx, hb, hml, hown, hts⟩ (c_L_pay l hfl D h0 h1 h2 h3 h4 h5 h6 h7 h8 h9 cI cJ d r lc bg w rm k pn fa e1 am dd rt b pd pt tp ho og H.size q1 z1 a1 hzz1 hpp1 hlc he hed hk ham hpn hbg hd hpd hpt (by omega) hb9) (vx_cwSW 3 hts gL_law_L_pay rfl rfl rfl (by decide +kernel) ⟨Nat.le_of_ble_eq_true rfl, Nat.le_of_ble_eq_true rfl⟩) ⟨nk_Px.blind, fun U hU hW => ⟨rfl, by rw [hU], by rw [hU]; exact hPc, va_K.moved hW.alike hK, hDc.weaken (fun _ _ _ _ => trivial), by rw [hU]; exact nk_Z.go hZH hW (fun q h => hFc q h)⟩⟩ rfl rfl hl.1 rfl (lv_room (Nat.le_of_ble_eq_true rfl)) dL_law_348 ⟨by show cells + 1 ≤ 1051; omega, by show slots + 6 ≤ 9300; omega⟩) hP hD hS hA [0, 1, 2, 3, 4, 5, 6, 7, 8, 9, 15] [10, 11, 12, 13, 14] rfl rfl rfl (by decide) (fun r9 w1 H locs hw9 hP hD hS hk9 => ?_)
  rcases hw9 with ⟨rfl, r8, w2, ⟨x1, x2, x3, rfl, rfl⟩, rfl⟩ | ⟨rfl, x1, rfl⟩ | ⟨rfl, x1, rfl⟩
  · have hP := hP.sub (ws' := wX h0 h1 h2 h3 h4 h5 h6 h7 h8 h9 cI cJ d r lc bg w rm k (pn + 1) fa e1 am dd rt (tkB b (a1 * 10000) k) (va_up pd pn d) (va_up pt pn a1) (tkT tp b (a1 * 10000) pn k) ++ (wM g0 g1 g2 g3 g4 cI cJ d r gb w rm lc k dr pn pa pi th ga e2 b rt ++ [(ho, .inl (cJ, 1, .inr (.inl (vp_updL og 0 ((nI (chg (mxE e1 lc) d ((d - bg) / 365) (sm am k) (pY bg pd pt ((d - bg) / 365) pn) a1)).toInt64)))))])) [6, 7, 8, 9, 10, 11, 12, 13, 14, 15, 0, 1, 2, 3, 4, 5] rfl
    have hD := hD.sub (ws' := wX h0 h1 h2 h3 h4 h5 h6 h7 h8 h9 cI cJ d r lc bg w rm k (pn + 1) fa e1 am dd rt (tkB b (a1 * 10000) k) (va_up pd pn d) (va_up pt pn a1) (tkT tp b (a1 * 10000) pn k) ++ (wM g0 g1 g2 g3 g4 cI cJ d r gb w rm lc k dr pn pa pi th ga e2 b rt ++ [(ho, .inl (cJ, 1, .inr (.inl (vp_updL og 0 ((nI (chg (mxE e1 lc) d ((d - bg) / 365) (sm am k) (pY bg pd pt ((d - bg) / 365) pn) a1)).toInt64)))))])) [6, 7, 8, 9, 10, 11, 12, 13, 14, 15, 0, 1, 2, 3, 4, 5] (by decide) rfl
    refine lv_istore (lv' := [(5, .int (nI 0)), (0, .ref sb), (1, .ref h0), (2, .ref g0), (3, .ref ho), (4, .int (nI i))]) hx hb dL_law_351 hl (by decide) rfl (fun ls hl => ?_)
    refine lv_aload_n hx hb dL_law_353 rfl (lv_at hl 3 rfl) ?_
    refine lv_aload_n hx hb dL_law_354 rfl (lv_at hl 1 rfl) ?_
    refine lv_iload hx hb dL_law_355 (lv_at hl 5 rfl) ?_
    refine lv_iconst (v := nI 1) hx hb dL_law_357 (by decide +kernel) ?_
    refine nk_iadd hx hb dL_law_358 ?_
    refine va_sld hx hb hX hbl hbA hS (vp_in_nI (by omega) (by omega)) dL_law_359 ?_
    refine nk_topi (y := q1) (by rw [nI_clamp (by omega)]; exact hq1) ?_
    have hPm := hP.sub (ws' := wM g0 g1 g2 g3 g4 cI cJ d r gb w rm lc k dr pn pa pi th ga e2 b rt) [10, 11, 12, 13, 14] rfl
    have hDm := hD.sub (ws' := wM g0 g1 g2 g3 g4 cI cJ d r gb w rm lc k dr pn pa pi th ga e2 b rt) [10, 11, 12, 13, 14] (by decide) rfl
    refine nk_icall (wr := wX h0 h1 h2 h3 h4 h5 h6 h7 h8 h9 cI cJ d r lc bg w rm k (pn + 1) fa e1 am dd rt (tkB b (a1 * 10000) k) (va_up pd pn d) (va_up pt pn a1) (tkT tp b (a1 * 10000) pn k) ++ [(ho, .inl (cJ, 1, .inr (.inl (vp_updL og 0 ((nI (chg (mxE e1 lc) d ((d - bg) / 365) (sm am k) (pY bg pd pt ((d - bg) / 365) pn) a1)).toInt64)))))]) (va_runV (As := [.int q1]) (rest := []) ⟨hx, hb, hml, hown, hts⟩ (c_X1_pay l D g0 g1 g2 g3 g4 cI cJ d r gb w rm lc k dr pn pa pi th ga e2 b rt H.size q1 z1 a1 hzz1 hpp1 hgb2 hlc he2 he2d hgb hd hpi hdr hpa1 hk (by omega) hb9 hpn) (cwV 1 hts gL_law_X1_pay rfl rfl rfl (by decide +kernel) ⟨Nat.le_of_ble_eq_true rfl, Nat.le_of_ble_eq_true rfl⟩) ⟨nk_Pw.blind, va_recv hK hPm (ci := 1) (q0 := 0) rfl rfl, fun U hU hW => ⟨rfl, by rw [hU], by rw [hU]; exact hPm, va_K.moved hW.alike hK, hDm.weaken (fun _ _ _ _ => trivial)⟩⟩ rfl rfl hl.1 rfl (lv_room (Nat.le_of_ble_eq_true rfl)) dL_law_360 ⟨by show cells + 1 + 0 ≤ 1051; omega, by show slots + 6 + 0 ≤ 9300; omega⟩) hP hD hS hA [10, 11, 12, 13, 14] [0, 1, 2, 3, 4, 5, 6, 7, 8, 9, 15] rfl rfl rfl (by decide) (fun r7 w1 H locs hw9 hP hD hS hk9 => ?_)
    try simp only [halE, hlsE, hmxE] at hw9
    rcases hw9 with ⟨y1, rfl⟩ | ⟨y1, y2, rfl⟩ | ⟨y1, y2, rfl, rfl⟩
    · exfalso; omega
    · exfalso; omega
    · have hP := hP.sub (ws' := wX h0 h1 h2 h3 h4 h5 h6 h7 h8 h9 cI cJ d r lc bg w rm k (pn + 1) fa e1 am dd rt (tkB b (a1 * 10000) k) (va_up pd pn d) (va_up pt pn a1) (tkT tp b (a1 * 10000) pn k) ++ (wM g0 g1 g2 g3 g4 cI cJ d r gb w rm lc k dr (pn + 1) ((if pi = (d + 1 - gb) / 365 then pa else 0) + a1) ((d + 1 - gb) / 365) 0 ga e2 (tkB b (a1 * 10000) k) rt ++ [(ho, .inl (cJ, 1, .inr (.inl (vp_updL og 0 ((nI (chg (mxE e1 lc) d ((d - bg) / 365) (sm am k) (pY bg pd pt ((d - bg) / 365) pn) a1)).toInt64)))))])) [0, 1, 2, 3, 4, 5, 6, 7, 8, 9, 11, 12, 13, 14, 15, 10] rfl
      have hD := hD.sub (ws' := wX h0 h1 h2 h3 h4 h5 h6 h7 h8 h9 cI cJ d r lc bg w rm k (pn + 1) fa e1 am dd rt (tkB b (a1 * 10000) k) (va_up pd pn d) (va_up pt pn a1) (tkT tp b (a1 * 10000) pn k) ++ (wM g0 g1 g2 g3 g4 cI cJ d r gb w rm lc k dr (pn + 1) ((if pi = (d + 1 - gb) / 365 then pa else 0) + a1) ((d + 1 - gb) / 365) 0 ga e2 (tkB b (a1 * 10000) k) rt ++ [(ho, .inl (cJ, 1, .inr (.inl (vp_updL og 0 ((nI (chg (mxE e1 lc) d ((d - bg) / 365) (sm am k) (pY bg pd pt ((d - bg) / 365) pn) a1)).toInt64)))))])) [0, 1, 2, 3, 4, 5, 6, 7, 8, 9, 11, 12, 13, 14, 15, 10] (by decide) rfl
      refine lv_istore (lv' := [(6, .int (nI (chg (mxE e1 lc) d ((d + 1 - gb) / 365) dr (if pi = (d + 1 - gb) / 365 then pa else 0) a1))), (5, .int (nI 0)), (0, .ref sb), (1, .ref h0), (2, .ref g0), (3, .ref ho), (4, .int (nI i))]) hx hb dL_law_363 hl (by decide) rfl (fun ls hl => ?_)
      refine lv_aload_n hx hb dL_law_365 rfl (lv_at hl 4 rfl) ?_
      have hPt := hP.sub (ws' := wM g0 g1 g2 g3 g4 cI cJ d r gb w rm lc k dr (pn + 1) ((if pi = (d + 1 - gb) / 365 then pa else 0) + a1) ((d + 1 - gb) / 365) 0 ga e2 (tkB b (a1 * 10000) k) rt) [10, 11, 12, 13, 14] rfl
      refine nk_rd (W.runV (As := []) (rest := []) ⟨hx, hb, hml, hown, hts⟩ (c_X1_thrown l D g0 g1 g2 g3 g4 cI cJ d r gb w rm lc k dr (pn + 1) ((if pi = (d + 1 - gb) / 365 then pa else 0) + a1) ((d + 1 - gb) / 365) 0 ga e2 (tkB b (a1 * 10000) k) rt) (cwV 0 hts gL_law_X1_thrown rfl rfl rfl (by decide +kernel) ⟨Nat.le_of_ble_eq_true rfl, Nat.le_of_ble_eq_true rfl⟩) ⟨nk_Pr.blind, va_recv hK hPt (ci := 1) (q0 := 0) rfl rfl, fun U hU hW => ⟨rfl, by rw [hU]; exact hPt, va_K.moved hW.alike hK⟩⟩ rfl rfl hl.1 rfl (lv_room (Nat.le_of_ble_eq_true rfl)) dL_law_366 ⟨by show cells + 1 + 0 ≤ 1051; omega, by show slots + 6 + 0 ≤ 9300; omega⟩) ?_
      refine W.eq (g2 := F0 m 369 ls [.int (nI 0)]) rfl ?_
      refine lv_iload hx hb dL_law_369 (lv_at hl 1 rfl) ?_
      refine nk_isame (tgt := 376) hx hb rfl dL_law_371 (by decide) ?_
      refine lv_iload hx hb dL_law_376 (lv_at hl 1 rfl) ?_
      refine nk_if_ne (tgt := 393) hx hb (by decide) dL_law_378 (by decide) (fun c9 => absurd c9 (by decide)) (fun _ => ?_)
      refine lv_aload_n hx hb dL_law_381 rfl (lv_at hl 5 rfl) ?_
      refine lv_iconst (v := nI 0) hx hb dL_law_382 (by decide +kernel) ?_
      refine va_lald hx hb hK hP 15 1 rfl rfl (vp_in_nI (by decide) (by decide)) dL_law_383 ?_
      refine nk_topl (y := (nI (chg (mxE e1 lc) d ((d - bg) / 365) (sm am k) (pY bg pd pt ((d - bg) / 365) pn) a1)).toInt64) nk_out ?_
      refine lv_iload hx hb dL_law_384 (lv_at hl 0 rfl) ?_
      refine lv_i2l hx hb dL_law_386 rfl ?_
      refine nk_lsame (tgt := 393) hx hb (by rw [show chg (mxE e1 lc) d ((d + 1 - gb) / 365) dr (if pi = (d + 1 - gb) / 365 then pa else 0) a1 = chg (mxE e1 lc) d ((d - bg) / 365) (sm am k) (pY bg pd pt ((d - bg) / 365) pn) a1 from by have := Inv_charge hI x2.1 a1; rw [hmxE] at this; exact this]) dL_law_387 dL_law_388 (by decide) ?_
      refine lv_goto (tgt := 877) hx hb dL_law_393 (by decide) ?_
      refine W.widen (k := cells + 1) (n := slots + 6) (by omega) (by omega) ?_
      have hgE : d + 1 - gb = d - bg := by omega
      rw [hgE] at hP hD
      exact kk _ _ _ ⟨_, _, _, _, _, _, _, _, _, _, _, _, _, _, _, _, _, _, _, _, _, _, _, _, _, Inv_take hI x2.1 x2.2 x3.2 (by omega) hw hI.1.2.2.2.2.2.1 (InvY_pay hI.2.2.2.2.2.2.2.2), hP, hD⟩ hS (lv_sub hl [2, 3, 4, 5, 6] rfl)
  · have hP := hP.sub (ws' := wX h0 h1 h2 h3 h4 h5 h6 h7 h8 h9 cI cJ d r lc bg w rm k pn fa e1 am dd rt b pd pt tp ++ (wM g0 g1 g2 g3 g4 cI cJ d r gb w rm lc k dr pn pa pi th ga e2 b rt ++ [(ho, .inl (cJ, 1, .inr (.inl (og))))])) [6, 7, 8, 9, 10, 11, 12, 13, 14, 15, 0, 1, 2, 3, 4, 5] rfl
    have hD := hD.sub (ws' := wX h0 h1 h2 h3 h4 h5 h6 h7 h8 h9 cI cJ d r lc bg w rm k pn fa e1 am dd rt b pd pt tp ++ (wM g0 g1 g2 g3 g4 cI cJ d r gb w rm lc k dr pn pa pi th ga e2 b rt ++ [(ho, .inl (cJ, 1, .inr (.inl (og))))])) [6, 7, 8, 9, 10, 11, 12, 13, 14, 15, 0, 1, 2, 3, 4, 5] (by decide) rfl
    refine lv_istore (lv' := [(5, .int (nI 1)), (0, .ref sb), (1, .ref h0), (2, .ref g0), (3, .ref ho), (4, .int (nI i))]) hx hb dL_law_351 hl (by decide) rfl (fun ls hl => ?_)
    refine lv_aload_n hx hb dL_law_353 rfl (lv_at hl 3 rfl) ?_
    refine lv_aload_n hx hb dL_law_354 rfl (lv_at hl 1 rfl) ?_
    refine lv_iload hx hb dL_law_355 (lv_at hl 5 rfl) ?_
    refine lv_iconst (v := nI 1) hx hb dL_law_357 (by decide +kernel) ?_
    refine nk_iadd hx hb dL_law_358 ?_
    refine va_sld hx hb hX hbl hbA hS (vp_in_nI (by omega) (by omega)) dL_law_359 ?_
    refine nk_topi (y := q1) (by rw [nI_clamp (by omega)]; exact hq1) ?_
    have hPm := hP.sub (ws' := wM g0 g1 g2 g3 g4 cI cJ d r gb w rm lc k dr pn pa pi th ga e2 b rt) [10, 11, 12, 13, 14] rfl
    have hDm := hD.sub (ws' := wM g0 g1 g2 g3 g4 cI cJ d r gb w rm lc k dr pn pa pi th ga e2 b rt) [10, 11, 12, 13, 14] (by decide) rfl
    refine nk_icall (wr := wX h0 h1 h2 h3 h4 h5 h6 h7 h8 h9 cI cJ d r lc bg w rm k pn fa e1 am dd rt b pd pt tp ++ [(ho, .inl (cJ, 1, .inr (.inl (og))))]) (va_runV (As := [.int q1]) (rest := []) ⟨hx, hb, hml, hown, hts⟩ (c_X1_pay l D g0 g1 g2 g3 g4 cI cJ d r gb w rm lc k dr pn pa pi th ga e2 b rt H.size q1 z1 a1 hzz1 hpp1 hgb2 hlc he2 he2d hgb hd hpi hdr hpa1 hk (by omega) hb9 hpn) (cwV 1 hts gL_law_X1_pay rfl rfl rfl (by decide +kernel) ⟨Nat.le_of_ble_eq_true rfl, Nat.le_of_ble_eq_true rfl⟩) ⟨nk_Pw.blind, va_recv hK hPm (ci := 1) (q0 := 0) rfl rfl, fun U hU hW => ⟨rfl, by rw [hU], by rw [hU]; exact hPm, va_K.moved hW.alike hK, hDm.weaken (fun _ _ _ _ => trivial)⟩⟩ rfl rfl hl.1 rfl (lv_room (Nat.le_of_ble_eq_true rfl)) dL_law_360 ⟨by show cells + 1 + 0 ≤ 1051; omega, by show slots + 6 + 0 ≤ 9300; omega⟩) hP hD hS hA [10, 11, 12, 13, 14] [0, 1, 2, 3, 4, 5, 6, 7, 8, 9, 15] rfl rfl rfl (by decide) (fun r7 w1 H locs hw9 hP hD hS hk9 => ?_)
    try simp only [halE, hlsE, hmxE] at hw9
    rcases hw9 with ⟨y1, rfl⟩ | ⟨y1, y2, rfl⟩ | ⟨y1, y2, rfl, rfl⟩
    · have hP := hP.sub (ws' := wX h0 h1 h2 h3 h4 h5 h6 h7 h8 h9 cI cJ d r lc bg w rm k pn fa e1 am dd rt b pd pt tp ++ (wM g0 g1 g2 g3 g4 cI cJ d r gb w rm lc k dr pn pa pi 1 ga e2 b rt ++ [(ho, .inl (cJ, 1, .inr (.inl (og))))])) [0, 1, 2, 3, 4, 5, 6, 7, 8, 9, 11, 12, 13, 14, 15, 10] rfl
      have hD := hD.sub (ws' := wX h0 h1 h2 h3 h4 h5 h6 h7 h8 h9 cI cJ d r lc bg w rm k pn fa e1 am dd rt b pd pt tp ++ (wM g0 g1 g2 g3 g4 cI cJ d r gb w rm lc k dr pn pa pi 1 ga e2 b rt ++ [(ho, .inl (cJ, 1, .inr (.inl (og))))])) [0, 1, 2, 3, 4, 5, 6, 7, 8, 9, 11, 12, 13, 14, 15, 10] (by decide) rfl
      refine lv_istore (lv' := [(6, .int r7), (5, .int (nI 1)), (0, .ref sb), (1, .ref h0), (2, .ref g0), (3, .ref ho), (4, .int (nI i))]) hx hb dL_law_363 hl (by decide) rfl (fun ls hl => ?_)
      refine lv_aload_n hx hb dL_law_365 rfl (lv_at hl 4 rfl) ?_
      have hPt := hP.sub (ws' := wM g0 g1 g2 g3 g4 cI cJ d r gb w rm lc k dr pn pa pi 1 ga e2 b rt) [10, 11, 12, 13, 14] rfl
      refine nk_rd (W.runV (As := []) (rest := []) ⟨hx, hb, hml, hown, hts⟩ (c_X1_thrown l D g0 g1 g2 g3 g4 cI cJ d r gb w rm lc k dr pn pa pi 1 ga e2 b rt) (cwV 0 hts gL_law_X1_thrown rfl rfl rfl (by decide +kernel) ⟨Nat.le_of_ble_eq_true rfl, Nat.le_of_ble_eq_true rfl⟩) ⟨nk_Pr.blind, va_recv hK hPt (ci := 1) (q0 := 0) rfl rfl, fun U hU hW => ⟨rfl, by rw [hU]; exact hPt, va_K.moved hW.alike hK⟩⟩ rfl rfl hl.1 rfl (lv_room (Nat.le_of_ble_eq_true rfl)) dL_law_366 ⟨by show cells + 1 + 0 ≤ 1051; omega, by show slots + 6 + 0 ≤ 9300; omega⟩) ?_
      refine W.eq (g2 := F0 m 369 ls [.int (nI 1)]) rfl ?_
      refine lv_iload hx hb dL_law_369 (lv_at hl 1 rfl) ?_
      refine nk_isame (tgt := 376) hx hb rfl dL_law_371 (by decide) ?_
      refine lv_iload hx hb dL_law_376 (lv_at hl 1 rfl) ?_
      refine nk_if_ne (tgt := 393) hx hb (by decide) dL_law_378 (by decide) (fun _ => ?_) (fun c9 => absurd c9 (by decide))
      refine lv_goto (tgt := 877) hx hb dL_law_393 (by decide) ?_
      refine W.widen (k := cells + 1) (n := slots + 6) (by omega) (by omega) ?_
      exact kk _ _ _ ⟨_, _, _, _, _, _, _, _, _, _, _, _, _, _, _, _, _, _, _, _, _, _, _, _, _, hI, hP, hD⟩ hS (lv_sub hl [2, 3, 4, 5, 6] rfl)
    · exfalso; omega
    · exfalso; omega
  · have hP := hP.sub (ws' := wX h0 h1 h2 h3 h4 h5 h6 h7 h8 h9 cI cJ d r lc bg w rm k pn fa e1 am dd rt b pd pt tp ++ (wM g0 g1 g2 g3 g4 cI cJ d r gb w rm lc k dr pn pa pi th ga e2 b rt ++ [(ho, .inl (cJ, 1, .inr (.inl (og))))])) [6, 7, 8, 9, 10, 11, 12, 13, 14, 15, 0, 1, 2, 3, 4, 5] rfl
    have hD := hD.sub (ws' := wX h0 h1 h2 h3 h4 h5 h6 h7 h8 h9 cI cJ d r lc bg w rm k pn fa e1 am dd rt b pd pt tp ++ (wM g0 g1 g2 g3 g4 cI cJ d r gb w rm lc k dr pn pa pi th ga e2 b rt ++ [(ho, .inl (cJ, 1, .inr (.inl (og))))])) [6, 7, 8, 9, 10, 11, 12, 13, 14, 15, 0, 1, 2, 3, 4, 5] (by decide) rfl
    refine lv_istore (lv' := [(5, .int (nI 2)), (0, .ref sb), (1, .ref h0), (2, .ref g0), (3, .ref ho), (4, .int (nI i))]) hx hb dL_law_351 hl (by decide) rfl (fun ls hl => ?_)
    refine lv_aload_n hx hb dL_law_353 rfl (lv_at hl 3 rfl) ?_
    refine lv_aload_n hx hb dL_law_354 rfl (lv_at hl 1 rfl) ?_
    refine lv_iload hx hb dL_law_355 (lv_at hl 5 rfl) ?_
    refine lv_iconst (v := nI 1) hx hb dL_law_357 (by decide +kernel) ?_
    refine nk_iadd hx hb dL_law_358 ?_
    refine va_sld hx hb hX hbl hbA hS (vp_in_nI (by omega) (by omega)) dL_law_359 ?_
    refine nk_topi (y := q1) (by rw [nI_clamp (by omega)]; exact hq1) ?_
    have hPm := hP.sub (ws' := wM g0 g1 g2 g3 g4 cI cJ d r gb w rm lc k dr pn pa pi th ga e2 b rt) [10, 11, 12, 13, 14] rfl
    have hDm := hD.sub (ws' := wM g0 g1 g2 g3 g4 cI cJ d r gb w rm lc k dr pn pa pi th ga e2 b rt) [10, 11, 12, 13, 14] (by decide) rfl
    refine nk_icall (wr := wX h0 h1 h2 h3 h4 h5 h6 h7 h8 h9 cI cJ d r lc bg w rm k pn fa e1 am dd rt b pd pt tp ++ [(ho, .inl (cJ, 1, .inr (.inl (og))))]) (va_runV (As := [.int q1]) (rest := []) ⟨hx, hb, hml, hown, hts⟩ (c_X1_pay l D g0 g1 g2 g3 g4 cI cJ d r gb w rm lc k dr pn pa pi th ga e2 b rt H.size q1 z1 a1 hzz1 hpp1 hgb2 hlc he2 he2d hgb hd hpi hdr hpa1 hk (by omega) hb9 hpn) (cwV 1 hts gL_law_X1_pay rfl rfl rfl (by decide +kernel) ⟨Nat.le_of_ble_eq_true rfl, Nat.le_of_ble_eq_true rfl⟩) ⟨nk_Pw.blind, va_recv hK hPm (ci := 1) (q0 := 0) rfl rfl, fun U hU hW => ⟨rfl, by rw [hU], by rw [hU]; exact hPm, va_K.moved hW.alike hK, hDm.weaken (fun _ _ _ _ => trivial)⟩⟩ rfl rfl hl.1 rfl (lv_room (Nat.le_of_ble_eq_true rfl)) dL_law_360 ⟨by show cells + 1 + 0 ≤ 1051; omega, by show slots + 6 + 0 ≤ 9300; omega⟩) hP hD hS hA [10, 11, 12, 13, 14] [0, 1, 2, 3, 4, 5, 6, 7, 8, 9, 15] rfl rfl rfl (by decide) (fun r7 w1 H locs hw9 hP hD hS hk9 => ?_)
    try simp only [halE, hlsE, hmxE] at hw9
    rcases hw9 with ⟨y1, rfl⟩ | ⟨y1, y2, rfl⟩ | ⟨y1, y2, rfl, rfl⟩
    · exfalso; omega
    · have hP := hP.sub (ws' := wX h0 h1 h2 h3 h4 h5 h6 h7 h8 h9 cI cJ d r lc bg w rm k pn fa e1 am dd rt b pd pt tp ++ (wM g0 g1 g2 g3 g4 cI cJ d r gb w rm lc k dr pn pa pi 2 ga e2 b rt ++ [(ho, .inl (cJ, 1, .inr (.inl (og))))])) [0, 1, 2, 3, 4, 5, 6, 7, 8, 9, 11, 12, 13, 14, 15, 10] rfl
      have hD := hD.sub (ws' := wX h0 h1 h2 h3 h4 h5 h6 h7 h8 h9 cI cJ d r lc bg w rm k pn fa e1 am dd rt b pd pt tp ++ (wM g0 g1 g2 g3 g4 cI cJ d r gb w rm lc k dr pn pa pi 2 ga e2 b rt ++ [(ho, .inl (cJ, 1, .inr (.inl (og))))])) [0, 1, 2, 3, 4, 5, 6, 7, 8, 9, 11, 12, 13, 14, 15, 10] (by decide) rfl
      refine lv_istore (lv' := [(6, .int r7), (5, .int (nI 2)), (0, .ref sb), (1, .ref h0), (2, .ref g0), (3, .ref ho), (4, .int (nI i))]) hx hb dL_law_363 hl (by decide) rfl (fun ls hl => ?_)
      refine lv_aload_n hx hb dL_law_365 rfl (lv_at hl 4 rfl) ?_
      have hPt := hP.sub (ws' := wM g0 g1 g2 g3 g4 cI cJ d r gb w rm lc k dr pn pa pi 2 ga e2 b rt) [10, 11, 12, 13, 14] rfl
      refine nk_rd (W.runV (As := []) (rest := []) ⟨hx, hb, hml, hown, hts⟩ (c_X1_thrown l D g0 g1 g2 g3 g4 cI cJ d r gb w rm lc k dr pn pa pi 2 ga e2 b rt) (cwV 0 hts gL_law_X1_thrown rfl rfl rfl (by decide +kernel) ⟨Nat.le_of_ble_eq_true rfl, Nat.le_of_ble_eq_true rfl⟩) ⟨nk_Pr.blind, va_recv hK hPt (ci := 1) (q0 := 0) rfl rfl, fun U hU hW => ⟨rfl, by rw [hU]; exact hPt, va_K.moved hW.alike hK⟩⟩ rfl rfl hl.1 rfl (lv_room (Nat.le_of_ble_eq_true rfl)) dL_law_366 ⟨by show cells + 1 + 0 ≤ 1051; omega, by show slots + 6 + 0 ≤ 9300; omega⟩) ?_
      refine W.eq (g2 := F0 m 369 ls [.int (nI 2)]) rfl ?_
      refine lv_iload hx hb dL_law_369 (lv_at hl 1 rfl) ?_
      refine nk_isame (tgt := 376) hx hb rfl dL_law_371 (by decide) ?_
      refine lv_iload hx hb dL_law_376 (lv_at hl 1 rfl) ?_
      refine nk_if_ne (tgt := 393) hx hb (by decide) dL_law_378 (by decide) (fun _ => ?_) (fun c9 => absurd c9 (by decide))
      refine lv_goto (tgt := 877) hx hb dL_law_393 (by decide) ?_
      refine W.widen (k := cells + 1) (n := slots + 6) (by omega) (by omega) ?_
      exact kk _ _ _ ⟨_, _, _, _, _, _, _, _, _, _, _, _, _, _, _, _, _, _, _, _, _, _, _, _, _, hI, hP, hD⟩ hS (lv_sub hl [2, 3, 4, 5, 6] rfl)
    · exfalso; omega
set_option maxHeartbeats 8000000 in
set_option maxRecDepth 100000 in
theorem lc_pass {p : Program} {l : Launch} {e : Env} {s : State} {m : MethodId} {below : List Frame} {meth : Method} {c : Code} {sb L : Nat} {xs : Nat → Int32} {D : va_G} {h0 h1 h2 h3 h4 h5 h6 h7 h8 h9 g0 g1 g2 g3 g4 ho : Nat} {cI cJ : ClassId} {H : Heap} {locs : List Loc} {cells slots : Nat} {Q : State → Prop} {ls : Array Slot} {i : Nat}
    (C0 : lw_At p s m meth c sb L xs) (hfl : l.stackTraces = false) (hK : va_K D vwCl (tX cI cJ) s) (hZ : nk_Z (fun q : Nat => s.heap.size ≤ q) s s.heap) (hc9 : cells + 1 ≤ 1051) (hs9 : slots + 6 ≤ 9300) (hi5 : i + 5 ≤ L) (hL : L ≤ 2560) (hSt : nk_St D (fun q : Nat => s.heap.size ≤ q) h0 h1 h2 h3 h4 h5 h6 h7 h8 h9 g0 g1 g2 g3 g4 ho cI cJ H) (hS : va_S (fun q : Nat => s.heap.size ≤ q) s.heap H locs) (hl : lv_has ls 8 [(0, .ref sb), (1, .ref h0), (2, .ref g0), (3, .ref ho), (4, .int (nI i))])
    (kk : ∀ (H1 : Heap) (locs1 : List Loc) (ls1 : Array Slot), nk_St D (fun q : Nat => s.heap.size ≤ q) h0 h1 h2 h3 h4 h5 h6 h7 h8 h9 g0 g1 g2 g3 g4 ho cI cJ H1 → va_S (fun q : Nat => s.heap.size ≤ q) s.heap H1 locs1 → lv_has ls1 8 [(0, .ref sb), (1, .ref h0), (2, .ref g0), (3, .ref ho), (4, .int (nI i))] → W p l e room_1 s m #[Value.ref sb] below meth c H1 locs1 (cells + 1) (slots + 6) Q (F0 m 877 ls1 [])) : W p l e room_1 s m #[Value.ref sb] below meth c H locs cells slots Q (F0 m 396 ls []) := by
  obtain ⟨hx, hb, hr, hml, hown, hts0, hX, hbl, hlocks, hgv⟩ := C0
  have hts : ∀ w ∈ wsL_law, w.before #[Value.ref sb] s = true := fun w h => hts0 w (wsL_law_in w h)
  have hown : s.vm.findClass RL = some m.cls := hown
  have hA : ∀ q : Nat, s.heap.size ≤ q → (fun q : Nat => s.heap.size ≤ q) q := fun _ h => h
  have hbA : ¬ (fun q : Nat => s.heap.size ≤ q) sb := Nat.not_le.mpr hbl
  obtain ⟨d, r, lc, bg, w, rm, k, pn, fa, e1, am, dd, rt, b, pd, pt, tp, gb, dr, pa, pi, ga, e2, th, og, hI, hP, hD⟩ := hSt
  obtain ⟨hlc, hd, hk, hpn, hbg, hw, hrm, he, hed, hfa, ham, hpd, hpd2, hpt, hbs, hb9, hrt, hdd, hroll, hh1, hh2, hh3, htp, hsa, hk0, he2, he2d, hga, hgb, hgb2, hpi, hdr, hpa1, he20, he21, hk0m, he28, hgbz, halE, hmxE, hlsE⟩ := Inv_f hI
  have hgbp : 0 < gb ↔ 0 < lc := by omega
  obtain ⟨q1, hq1⟩ : ∃ q, xs (i + 1) = q := ⟨_, rfl⟩
  obtain ⟨z1, hzz1⟩ : ∃ z, q1.toInt = z := ⟨_, rfl⟩
  obtain ⟨a1, hpp1, hza1⟩ := nk_arg hzz1
  refine lv_aload_n hx hb dL_law_396 rfl (lv_at hl 1 rfl) ?_
  refine lv_aload_n hx hb dL_law_397 rfl (lv_at hl 0 rfl) ?_
  refine lv_iload hx hb dL_law_398 (lv_at hl 4 rfl) ?_
  refine lv_iconst (v := nI 1) hx hb dL_law_400 (by decide +kernel) ?_
  refine nk_iadd hx hb dL_law_401 ?_
  refine va_sld hx hb hX hbl hbA hS (vp_in_nI (by omega) (by omega)) dL_law_402 ?_
  refine nk_topi (y := q1) (by rw [nI_clamp (by omega)]; exact hq1) ?_
  refine lv_aload_n hx hb dL_law_403 rfl (lv_at hl 3 rfl) ?_
  have hPc := hP.sub (ws' := wX h0 h1 h2 h3 h4 h5 h6 h7 h8 h9 cI cJ d r lc bg w rm k pn fa e1 am dd rt b pd pt tp ++ [(ho, .inl (cJ, 1, .inr (.inl (og))))]) [0, 1, 2, 3, 4, 5, 6, 7, 8, 9, 15] rfl
  have hDc := hD.sub (ws' := wX h0 h1 h2 h3 h4 h5 h6 h7 h8 h9 cI cJ d r lc bg w rm k pn fa e1 am dd rt b pd pt tp ++ [(ho, .inl (cJ, 1, .inr (.inl (og))))]) [0, 1, 2, 3, 4, 5, 6, 7, 8, 9, 15] (by decide) rfl
  have hFc := va_free (wc := wX h0 h1 h2 h3 h4 h5 h6 h7 h8 h9 cI cJ d r lc bg w rm k pn fa e1 am dd rt b pd pt tp ++ [(ho, .inl (cJ, 1, .inr (.inl (og))))]) hD hS hA [0, 1, 2, 3, 4, 5, 6, 7, 8, 9, 15] rfl
  have hZH := hZ.kept hS.2.1
  refine nk_icall (mc := 1) (ms := 6) (wr := wM g0 g1 g2 g3 g4 cI cJ d r gb w rm lc k dr pn pa pi th ga e2 b rt) (vx_runSW (As := [.ref h0, .int q1, .ref ho]) (rest := []) ⟨hx, hb, hml, hown, hts⟩ (c_L_pass l hfl D h0 h1 h2 h3 h4 h5 h6 h7 h8 h9 cI cJ d r lc bg w rm k pn fa e1 am dd rt b pd pt tp ho og H.size q1 z1 a1 hzz1 hpp1 hlc he hk hd hroll hrt) (vx_cwSW 3 hts gL_law_L_pass rfl rfl rfl (by decide +kernel) ⟨Nat.le_of_ble_eq_true rfl, Nat.le_of_ble_eq_true rfl⟩) ⟨nk_Px.blind, fun U hU hW => ⟨rfl, by rw [hU], by rw [hU]; exact hPc, va_K.moved hW.alike hK, hDc.weaken (fun _ _ _ _ => trivial), by rw [hU]; exact nk_Z.go hZH hW (fun q h => hFc q h)⟩⟩ rfl rfl hl.1 rfl (lv_room (Nat.le_of_ble_eq_true rfl)) dL_law_404 ⟨by show cells + 1 ≤ 1051; omega, by show slots + 6 ≤ 9300; omega⟩) hP hD hS hA [0, 1, 2, 3, 4, 5, 6, 7, 8, 9, 15] [10, 11, 12, 13, 14] rfl rfl rfl (by decide) (fun r9 w1 H locs hw9 hP hD hS hk9 => ?_)
  rcases hw9 with ⟨rfl, r8, w2, ⟨x1, x2, rfl, (⟨x3, rfl⟩ | ⟨x3, rfl⟩)⟩, rfl⟩ | ⟨rfl, x1, rfl⟩ | ⟨rfl, x1, rfl⟩
  · have hP := hP.sub (ws' := wX h0 h1 h2 h3 h4 h5 h6 h7 h8 h9 cI cJ (d + a1) r lc bg w rm k pn fa e1 am dd rt b pd pt tp ++ (wM g0 g1 g2 g3 g4 cI cJ d r gb w rm lc k dr pn pa pi th ga e2 b rt ++ [(ho, .inl (cJ, 1, .inr (.inl (vp_updL og 0 ((nI (d + a1)).toInt64)))))])) [6, 7, 8, 9, 10, 11, 12, 13, 14, 15, 0, 1, 2, 3, 4, 5] rfl
    have hD := hD.sub (ws' := wX h0 h1 h2 h3 h4 h5 h6 h7 h8 h9 cI cJ (d + a1) r lc bg w rm k pn fa e1 am dd rt b pd pt tp ++ (wM g0 g1 g2 g3 g4 cI cJ d r gb w rm lc k dr pn pa pi th ga e2 b rt ++ [(ho, .inl (cJ, 1, .inr (.inl (vp_updL og 0 ((nI (d + a1)).toInt64)))))])) [6, 7, 8, 9, 10, 11, 12, 13, 14, 15, 0, 1, 2, 3, 4, 5] (by decide) rfl
    refine lv_istore (lv' := [(5, .int (nI 0)), (0, .ref sb), (1, .ref h0), (2, .ref g0), (3, .ref ho), (4, .int (nI i))]) hx hb dL_law_407 hl (by decide) rfl (fun ls hl => ?_)
    refine lv_aload_n hx hb dL_law_409 rfl (lv_at hl 3 rfl) ?_
    refine lv_aload_n hx hb dL_law_410 rfl (lv_at hl 1 rfl) ?_
    refine lv_iload hx hb dL_law_411 (lv_at hl 5 rfl) ?_
    refine lv_iconst (v := nI 1) hx hb dL_law_413 (by decide +kernel) ?_
    refine nk_iadd hx hb dL_law_414 ?_
    refine va_sld hx hb hX hbl hbA hS (vp_in_nI (by omega) (by omega)) dL_law_415 ?_
    refine nk_topi (y := q1) (by rw [nI_clamp (by omega)]; exact hq1) ?_
    have hPm := hP.sub (ws' := wM g0 g1 g2 g3 g4 cI cJ d r gb w rm lc k dr pn pa pi th ga e2 b rt) [10, 11, 12, 13, 14] rfl
    have hDm := hD.sub (ws' := wM g0 g1 g2 g3 g4 cI cJ d r gb w rm lc k dr pn pa pi th ga e2 b rt) [10, 11, 12, 13, 14] (by decide) rfl
    refine nk_icall (wr := wX h0 h1 h2 h3 h4 h5 h6 h7 h8 h9 cI cJ (d + a1) r lc bg w rm k pn fa e1 am dd rt b pd pt tp ++ [(ho, .inl (cJ, 1, .inr (.inl (vp_updL og 0 ((nI (d + a1)).toInt64)))))]) (va_runV (As := [.int q1]) (rest := []) ⟨hx, hb, hml, hown, hts⟩ (c_X1_pass l D g0 g1 g2 g3 g4 cI cJ d r gb w rm lc k dr pn pa pi th ga e2 b rt H.size q1 z1 a1 hzz1 hpp1 hgb2 hlc he2 hd hk hroll hrt) (cwV 1 hts gL_law_X1_pass rfl rfl rfl (by decide +kernel) ⟨Nat.le_of_ble_eq_true rfl, Nat.le_of_ble_eq_true rfl⟩) ⟨nk_Pw.blind, va_recv hK hPm (ci := 1) (q0 := 0) rfl rfl, fun U hU hW => ⟨rfl, by rw [hU], by rw [hU]; exact hPm, va_K.moved hW.alike hK, hDm.weaken (fun _ _ _ _ => trivial)⟩⟩ rfl rfl hl.1 rfl (lv_room (Nat.le_of_ble_eq_true rfl)) dL_law_416 ⟨by show cells + 1 + 0 ≤ 1051; omega, by show slots + 6 + 0 ≤ 9300; omega⟩) hP hD hS hA [10, 11, 12, 13, 14] [0, 1, 2, 3, 4, 5, 6, 7, 8, 9, 15] rfl rfl rfl (by decide) (fun r7 w1 H locs hw9 hP hD hS hk9 => ?_)
    try simp only [halE, hlsE, hmxE] at hw9
    rcases hw9 with ⟨y1, rfl⟩ | ⟨y1, y2, rfl⟩ | ⟨y1, y2, rfl, (⟨y3, rfl⟩ | ⟨y3, rfl⟩)⟩
    · exfalso; omega
    · exfalso; omega
    · have hP := hP.sub (ws' := wX h0 h1 h2 h3 h4 h5 h6 h7 h8 h9 cI cJ (d + a1) r lc bg w rm k pn fa e1 am dd rt b pd pt tp ++ (wM g0 g1 g2 g3 g4 cI cJ (d + a1) r gb w rm lc k dr pn pa pi 0 ga e2 b rt ++ [(ho, .inl (cJ, 1, .inr (.inl (vp_updL og 0 ((nI (d + a1)).toInt64)))))])) [0, 1, 2, 3, 4, 5, 6, 7, 8, 9, 11, 12, 13, 14, 15, 10] rfl
      have hD := hD.sub (ws' := wX h0 h1 h2 h3 h4 h5 h6 h7 h8 h9 cI cJ (d + a1) r lc bg w rm k pn fa e1 am dd rt b pd pt tp ++ (wM g0 g1 g2 g3 g4 cI cJ (d + a1) r gb w rm lc k dr pn pa pi 0 ga e2 b rt ++ [(ho, .inl (cJ, 1, .inr (.inl (vp_updL og 0 ((nI (d + a1)).toInt64)))))])) [0, 1, 2, 3, 4, 5, 6, 7, 8, 9, 11, 12, 13, 14, 15, 10] (by decide) rfl
      refine lv_istore (lv' := [(6, .int (nI (d + a1))), (5, .int (nI 0)), (0, .ref sb), (1, .ref h0), (2, .ref g0), (3, .ref ho), (4, .int (nI i))]) hx hb dL_law_419 hl (by decide) rfl (fun ls hl => ?_)
      refine lv_aload_n hx hb dL_law_421 rfl (lv_at hl 4 rfl) ?_
      have hPt := hP.sub (ws' := wM g0 g1 g2 g3 g4 cI cJ (d + a1) r gb w rm lc k dr pn pa pi 0 ga e2 b rt) [10, 11, 12, 13, 14] rfl
      refine nk_rd (W.runV (As := []) (rest := []) ⟨hx, hb, hml, hown, hts⟩ (c_X1_thrown l D g0 g1 g2 g3 g4 cI cJ (d + a1) r gb w rm lc k dr pn pa pi 0 ga e2 b rt) (cwV 0 hts gL_law_X1_thrown rfl rfl rfl (by decide +kernel) ⟨Nat.le_of_ble_eq_true rfl, Nat.le_of_ble_eq_true rfl⟩) ⟨nk_Pr.blind, va_recv hK hPt (ci := 1) (q0 := 0) rfl rfl, fun U hU hW => ⟨rfl, by rw [hU]; exact hPt, va_K.moved hW.alike hK⟩⟩ rfl rfl hl.1 rfl (lv_room (Nat.le_of_ble_eq_true rfl)) dL_law_422 ⟨by show cells + 1 + 0 ≤ 1051; omega, by show slots + 6 + 0 ≤ 9300; omega⟩) ?_
      refine W.eq (g2 := F0 m 425 ls [.int (nI 0)]) rfl ?_
      refine lv_iload hx hb dL_law_425 (lv_at hl 1 rfl) ?_
      refine nk_isame (tgt := 432) hx hb rfl dL_law_427 (by decide) ?_
      refine lv_iload hx hb dL_law_432 (lv_at hl 1 rfl) ?_
      refine nk_if_ne (tgt := 449) hx hb (by decide) dL_law_434 (by decide) (fun c9 => absurd c9 (by decide)) (fun _ => ?_)
      refine lv_aload_n hx hb dL_law_437 rfl (lv_at hl 5 rfl) ?_
      refine lv_iconst (v := nI 0) hx hb dL_law_438 (by decide +kernel) ?_
      refine va_lald hx hb hK hP 15 1 rfl rfl (vp_in_nI (by decide) (by decide)) dL_law_439 ?_
      refine nk_topl (y := (nI (d + a1)).toInt64) nk_out ?_
      refine lv_iload hx hb dL_law_440 (lv_at hl 0 rfl) ?_
      refine lv_i2l hx hb dL_law_442 rfl ?_
      refine nk_lsame (tgt := 449) hx hb rfl dL_law_443 dL_law_444 (by decide) ?_
      refine lv_goto (tgt := 877) hx hb dL_law_449 (by decide) ?_
      refine W.widen (k := cells + 1) (n := slots + 6) (by omega) (by omega) ?_
      exact kk _ _ _ ⟨_, _, _, _, _, _, _, _, _, _, _, _, _, _, _, _, _, _, _, _, _, _, _, _, _, Inv_passE hI x2 x3, hP, hD⟩ hS (lv_sub hl [2, 3, 4, 5, 6] rfl)
    · exfalso; omega
  · have hP := hP.sub (ws' := wX h0 h1 h2 h3 h4 h5 h6 h7 h8 h9 cI cJ (d + a1) r lc bg w rm k pn fa e1 am dd rt (rlB rt b a1 k) pd pt tp ++ (wM g0 g1 g2 g3 g4 cI cJ d r gb w rm lc k dr pn pa pi th ga e2 b rt ++ [(ho, .inl (cJ, 1, .inr (.inl (vp_updL og 0 ((nI (d + a1)).toInt64)))))])) [6, 7, 8, 9, 10, 11, 12, 13, 14, 15, 0, 1, 2, 3, 4, 5] rfl
    have hD := hD.sub (ws' := wX h0 h1 h2 h3 h4 h5 h6 h7 h8 h9 cI cJ (d + a1) r lc bg w rm k pn fa e1 am dd rt (rlB rt b a1 k) pd pt tp ++ (wM g0 g1 g2 g3 g4 cI cJ d r gb w rm lc k dr pn pa pi th ga e2 b rt ++ [(ho, .inl (cJ, 1, .inr (.inl (vp_updL og 0 ((nI (d + a1)).toInt64)))))])) [6, 7, 8, 9, 10, 11, 12, 13, 14, 15, 0, 1, 2, 3, 4, 5] (by decide) rfl
    refine lv_istore (lv' := [(5, .int (nI 0)), (0, .ref sb), (1, .ref h0), (2, .ref g0), (3, .ref ho), (4, .int (nI i))]) hx hb dL_law_407 hl (by decide) rfl (fun ls hl => ?_)
    refine lv_aload_n hx hb dL_law_409 rfl (lv_at hl 3 rfl) ?_
    refine lv_aload_n hx hb dL_law_410 rfl (lv_at hl 1 rfl) ?_
    refine lv_iload hx hb dL_law_411 (lv_at hl 5 rfl) ?_
    refine lv_iconst (v := nI 1) hx hb dL_law_413 (by decide +kernel) ?_
    refine nk_iadd hx hb dL_law_414 ?_
    refine va_sld hx hb hX hbl hbA hS (vp_in_nI (by omega) (by omega)) dL_law_415 ?_
    refine nk_topi (y := q1) (by rw [nI_clamp (by omega)]; exact hq1) ?_
    have hPm := hP.sub (ws' := wM g0 g1 g2 g3 g4 cI cJ d r gb w rm lc k dr pn pa pi th ga e2 b rt) [10, 11, 12, 13, 14] rfl
    have hDm := hD.sub (ws' := wM g0 g1 g2 g3 g4 cI cJ d r gb w rm lc k dr pn pa pi th ga e2 b rt) [10, 11, 12, 13, 14] (by decide) rfl
    refine nk_icall (wr := wX h0 h1 h2 h3 h4 h5 h6 h7 h8 h9 cI cJ (d + a1) r lc bg w rm k pn fa e1 am dd rt (rlB rt b a1 k) pd pt tp ++ [(ho, .inl (cJ, 1, .inr (.inl (vp_updL og 0 ((nI (d + a1)).toInt64)))))]) (va_runV (As := [.int q1]) (rest := []) ⟨hx, hb, hml, hown, hts⟩ (c_X1_pass l D g0 g1 g2 g3 g4 cI cJ d r gb w rm lc k dr pn pa pi th ga e2 b rt H.size q1 z1 a1 hzz1 hpp1 hgb2 hlc he2 hd hk hroll hrt) (cwV 1 hts gL_law_X1_pass rfl rfl rfl (by decide +kernel) ⟨Nat.le_of_ble_eq_true rfl, Nat.le_of_ble_eq_true rfl⟩) ⟨nk_Pw.blind, va_recv hK hPm (ci := 1) (q0 := 0) rfl rfl, fun U hU hW => ⟨rfl, by rw [hU], by rw [hU]; exact hPm, va_K.moved hW.alike hK, hDm.weaken (fun _ _ _ _ => trivial)⟩⟩ rfl rfl hl.1 rfl (lv_room (Nat.le_of_ble_eq_true rfl)) dL_law_416 ⟨by show cells + 1 + 0 ≤ 1051; omega, by show slots + 6 + 0 ≤ 9300; omega⟩) hP hD hS hA [10, 11, 12, 13, 14] [0, 1, 2, 3, 4, 5, 6, 7, 8, 9, 15] rfl rfl rfl (by decide) (fun r7 w1 H locs hw9 hP hD hS hk9 => ?_)
    try simp only [halE, hlsE, hmxE] at hw9
    rcases hw9 with ⟨y1, rfl⟩ | ⟨y1, y2, rfl⟩ | ⟨y1, y2, rfl, (⟨y3, rfl⟩ | ⟨y3, rfl⟩)⟩
    · exfalso; omega
    · exfalso; omega
    · have hP := hP.sub (ws' := wX h0 h1 h2 h3 h4 h5 h6 h7 h8 h9 cI cJ (d + a1) r lc bg w rm k pn fa e1 am dd rt (rlB rt b a1 k) pd pt tp ++ (wM g0 g1 g2 g3 g4 cI cJ (d + a1) r gb w rm lc k dr pn pa pi 0 ga e2 b rt ++ [(ho, .inl (cJ, 1, .inr (.inl (vp_updL og 0 ((nI (d + a1)).toInt64)))))])) [0, 1, 2, 3, 4, 5, 6, 7, 8, 9, 11, 12, 13, 14, 15, 10] rfl
      have hD := hD.sub (ws' := wX h0 h1 h2 h3 h4 h5 h6 h7 h8 h9 cI cJ (d + a1) r lc bg w rm k pn fa e1 am dd rt (rlB rt b a1 k) pd pt tp ++ (wM g0 g1 g2 g3 g4 cI cJ (d + a1) r gb w rm lc k dr pn pa pi 0 ga e2 b rt ++ [(ho, .inl (cJ, 1, .inr (.inl (vp_updL og 0 ((nI (d + a1)).toInt64)))))])) [0, 1, 2, 3, 4, 5, 6, 7, 8, 9, 11, 12, 13, 14, 15, 10] (by decide) rfl
      refine lv_istore (lv' := [(6, .int (nI (d + a1))), (5, .int (nI 0)), (0, .ref sb), (1, .ref h0), (2, .ref g0), (3, .ref ho), (4, .int (nI i))]) hx hb dL_law_419 hl (by decide) rfl (fun ls hl => ?_)
      refine lv_aload_n hx hb dL_law_421 rfl (lv_at hl 4 rfl) ?_
      have hPt := hP.sub (ws' := wM g0 g1 g2 g3 g4 cI cJ (d + a1) r gb w rm lc k dr pn pa pi 0 ga e2 b rt) [10, 11, 12, 13, 14] rfl
      refine nk_rd (W.runV (As := []) (rest := []) ⟨hx, hb, hml, hown, hts⟩ (c_X1_thrown l D g0 g1 g2 g3 g4 cI cJ (d + a1) r gb w rm lc k dr pn pa pi 0 ga e2 b rt) (cwV 0 hts gL_law_X1_thrown rfl rfl rfl (by decide +kernel) ⟨Nat.le_of_ble_eq_true rfl, Nat.le_of_ble_eq_true rfl⟩) ⟨nk_Pr.blind, va_recv hK hPt (ci := 1) (q0 := 0) rfl rfl, fun U hU hW => ⟨rfl, by rw [hU]; exact hPt, va_K.moved hW.alike hK⟩⟩ rfl rfl hl.1 rfl (lv_room (Nat.le_of_ble_eq_true rfl)) dL_law_422 ⟨by show cells + 1 + 0 ≤ 1051; omega, by show slots + 6 + 0 ≤ 9300; omega⟩) ?_
      refine W.eq (g2 := F0 m 425 ls [.int (nI 0)]) rfl ?_
      refine lv_iload hx hb dL_law_425 (lv_at hl 1 rfl) ?_
      refine nk_isame (tgt := 432) hx hb rfl dL_law_427 (by decide) ?_
      refine lv_iload hx hb dL_law_432 (lv_at hl 1 rfl) ?_
      refine nk_if_ne (tgt := 449) hx hb (by decide) dL_law_434 (by decide) (fun c9 => absurd c9 (by decide)) (fun _ => ?_)
      refine lv_aload_n hx hb dL_law_437 rfl (lv_at hl 5 rfl) ?_
      refine lv_iconst (v := nI 0) hx hb dL_law_438 (by decide +kernel) ?_
      refine va_lald hx hb hK hP 15 1 rfl rfl (vp_in_nI (by decide) (by decide)) dL_law_439 ?_
      refine nk_topl (y := (nI (d + a1)).toInt64) nk_out ?_
      refine lv_iload hx hb dL_law_440 (lv_at hl 0 rfl) ?_
      refine lv_i2l hx hb dL_law_442 rfl ?_
      refine nk_lsame (tgt := 449) hx hb rfl dL_law_443 dL_law_444 (by decide) ?_
      refine lv_goto (tgt := 877) hx hb dL_law_449 (by decide) ?_
      refine W.widen (k := cells + 1) (n := slots + 6) (by omega) (by omega) ?_
      have hbE : rlB rt b a1 k = b := by rw [hk0 (by omega), rlB_0]
      have hI2 := Inv_passR hI x2 x3
      rw [hbE] at hP hD hI2
      exact kk _ _ _ ⟨_, _, _, _, _, _, _, _, _, _, _, _, _, _, _, _, _, _, _, _, _, _, _, _, _, hI2, hP, hD⟩ hS (lv_sub hl [2, 3, 4, 5, 6] rfl)
    · have hP := hP.sub (ws' := wX h0 h1 h2 h3 h4 h5 h6 h7 h8 h9 cI cJ (d + a1) r lc bg w rm k pn fa e1 am dd rt (rlB rt b a1 k) pd pt tp ++ (wM g0 g1 g2 g3 g4 cI cJ (d + a1) r gb w rm lc k dr pn pa pi 0 ga e2 (rlB rt b a1 k) rt ++ [(ho, .inl (cJ, 1, .inr (.inl (vp_updL og 0 ((nI (d + a1)).toInt64)))))])) [0, 1, 2, 3, 4, 5, 6, 7, 8, 9, 11, 12, 13, 14, 15, 10] rfl
      have hD := hD.sub (ws' := wX h0 h1 h2 h3 h4 h5 h6 h7 h8 h9 cI cJ (d + a1) r lc bg w rm k pn fa e1 am dd rt (rlB rt b a1 k) pd pt tp ++ (wM g0 g1 g2 g3 g4 cI cJ (d + a1) r gb w rm lc k dr pn pa pi 0 ga e2 (rlB rt b a1 k) rt ++ [(ho, .inl (cJ, 1, .inr (.inl (vp_updL og 0 ((nI (d + a1)).toInt64)))))])) [0, 1, 2, 3, 4, 5, 6, 7, 8, 9, 11, 12, 13, 14, 15, 10] (by decide) rfl
      refine lv_istore (lv' := [(6, .int (nI (d + a1))), (5, .int (nI 0)), (0, .ref sb), (1, .ref h0), (2, .ref g0), (3, .ref ho), (4, .int (nI i))]) hx hb dL_law_419 hl (by decide) rfl (fun ls hl => ?_)
      refine lv_aload_n hx hb dL_law_421 rfl (lv_at hl 4 rfl) ?_
      have hPt := hP.sub (ws' := wM g0 g1 g2 g3 g4 cI cJ (d + a1) r gb w rm lc k dr pn pa pi 0 ga e2 (rlB rt b a1 k) rt) [10, 11, 12, 13, 14] rfl
      refine nk_rd (W.runV (As := []) (rest := []) ⟨hx, hb, hml, hown, hts⟩ (c_X1_thrown l D g0 g1 g2 g3 g4 cI cJ (d + a1) r gb w rm lc k dr pn pa pi 0 ga e2 (rlB rt b a1 k) rt) (cwV 0 hts gL_law_X1_thrown rfl rfl rfl (by decide +kernel) ⟨Nat.le_of_ble_eq_true rfl, Nat.le_of_ble_eq_true rfl⟩) ⟨nk_Pr.blind, va_recv hK hPt (ci := 1) (q0 := 0) rfl rfl, fun U hU hW => ⟨rfl, by rw [hU]; exact hPt, va_K.moved hW.alike hK⟩⟩ rfl rfl hl.1 rfl (lv_room (Nat.le_of_ble_eq_true rfl)) dL_law_422 ⟨by show cells + 1 + 0 ≤ 1051; omega, by show slots + 6 + 0 ≤ 9300; omega⟩) ?_
      refine W.eq (g2 := F0 m 425 ls [.int (nI 0)]) rfl ?_
      refine lv_iload hx hb dL_law_425 (lv_at hl 1 rfl) ?_
      refine nk_isame (tgt := 432) hx hb rfl dL_law_427 (by decide) ?_
      refine lv_iload hx hb dL_law_432 (lv_at hl 1 rfl) ?_
      refine nk_if_ne (tgt := 449) hx hb (by decide) dL_law_434 (by decide) (fun c9 => absurd c9 (by decide)) (fun _ => ?_)
      refine lv_aload_n hx hb dL_law_437 rfl (lv_at hl 5 rfl) ?_
      refine lv_iconst (v := nI 0) hx hb dL_law_438 (by decide +kernel) ?_
      refine va_lald hx hb hK hP 15 1 rfl rfl (vp_in_nI (by decide) (by decide)) dL_law_439 ?_
      refine nk_topl (y := (nI (d + a1)).toInt64) nk_out ?_
      refine lv_iload hx hb dL_law_440 (lv_at hl 0 rfl) ?_
      refine lv_i2l hx hb dL_law_442 rfl ?_
      refine nk_lsame (tgt := 449) hx hb rfl dL_law_443 dL_law_444 (by decide) ?_
      refine lv_goto (tgt := 877) hx hb dL_law_449 (by decide) ?_
      refine W.widen (k := cells + 1) (n := slots + 6) (by omega) (by omega) ?_
      exact kk _ _ _ ⟨_, _, _, _, _, _, _, _, _, _, _, _, _, _, _, _, _, _, _, _, _, _, _, _, _, Inv_passR hI x2 x3, hP, hD⟩ hS (lv_sub hl [2, 3, 4, 5, 6] rfl)
  · have hP := hP.sub (ws' := wX h0 h1 h2 h3 h4 h5 h6 h7 h8 h9 cI cJ d r lc bg w rm k pn fa e1 am dd rt b pd pt tp ++ (wM g0 g1 g2 g3 g4 cI cJ d r gb w rm lc k dr pn pa pi th ga e2 b rt ++ [(ho, .inl (cJ, 1, .inr (.inl (og))))])) [6, 7, 8, 9, 10, 11, 12, 13, 14, 15, 0, 1, 2, 3, 4, 5] rfl
    have hD := hD.sub (ws' := wX h0 h1 h2 h3 h4 h5 h6 h7 h8 h9 cI cJ d r lc bg w rm k pn fa e1 am dd rt b pd pt tp ++ (wM g0 g1 g2 g3 g4 cI cJ d r gb w rm lc k dr pn pa pi th ga e2 b rt ++ [(ho, .inl (cJ, 1, .inr (.inl (og))))])) [6, 7, 8, 9, 10, 11, 12, 13, 14, 15, 0, 1, 2, 3, 4, 5] (by decide) rfl
    refine lv_istore (lv' := [(5, .int (nI 1)), (0, .ref sb), (1, .ref h0), (2, .ref g0), (3, .ref ho), (4, .int (nI i))]) hx hb dL_law_407 hl (by decide) rfl (fun ls hl => ?_)
    refine lv_aload_n hx hb dL_law_409 rfl (lv_at hl 3 rfl) ?_
    refine lv_aload_n hx hb dL_law_410 rfl (lv_at hl 1 rfl) ?_
    refine lv_iload hx hb dL_law_411 (lv_at hl 5 rfl) ?_
    refine lv_iconst (v := nI 1) hx hb dL_law_413 (by decide +kernel) ?_
    refine nk_iadd hx hb dL_law_414 ?_
    refine va_sld hx hb hX hbl hbA hS (vp_in_nI (by omega) (by omega)) dL_law_415 ?_
    refine nk_topi (y := q1) (by rw [nI_clamp (by omega)]; exact hq1) ?_
    have hPm := hP.sub (ws' := wM g0 g1 g2 g3 g4 cI cJ d r gb w rm lc k dr pn pa pi th ga e2 b rt) [10, 11, 12, 13, 14] rfl
    have hDm := hD.sub (ws' := wM g0 g1 g2 g3 g4 cI cJ d r gb w rm lc k dr pn pa pi th ga e2 b rt) [10, 11, 12, 13, 14] (by decide) rfl
    refine nk_icall (wr := wX h0 h1 h2 h3 h4 h5 h6 h7 h8 h9 cI cJ d r lc bg w rm k pn fa e1 am dd rt b pd pt tp ++ [(ho, .inl (cJ, 1, .inr (.inl (og))))]) (va_runV (As := [.int q1]) (rest := []) ⟨hx, hb, hml, hown, hts⟩ (c_X1_pass l D g0 g1 g2 g3 g4 cI cJ d r gb w rm lc k dr pn pa pi th ga e2 b rt H.size q1 z1 a1 hzz1 hpp1 hgb2 hlc he2 hd hk hroll hrt) (cwV 1 hts gL_law_X1_pass rfl rfl rfl (by decide +kernel) ⟨Nat.le_of_ble_eq_true rfl, Nat.le_of_ble_eq_true rfl⟩) ⟨nk_Pw.blind, va_recv hK hPm (ci := 1) (q0 := 0) rfl rfl, fun U hU hW => ⟨rfl, by rw [hU], by rw [hU]; exact hPm, va_K.moved hW.alike hK, hDm.weaken (fun _ _ _ _ => trivial)⟩⟩ rfl rfl hl.1 rfl (lv_room (Nat.le_of_ble_eq_true rfl)) dL_law_416 ⟨by show cells + 1 + 0 ≤ 1051; omega, by show slots + 6 + 0 ≤ 9300; omega⟩) hP hD hS hA [10, 11, 12, 13, 14] [0, 1, 2, 3, 4, 5, 6, 7, 8, 9, 15] rfl rfl rfl (by decide) (fun r7 w1 H locs hw9 hP hD hS hk9 => ?_)
    try simp only [halE, hlsE, hmxE] at hw9
    rcases hw9 with ⟨y1, rfl⟩ | ⟨y1, y2, rfl⟩ | ⟨y1, y2, rfl, (⟨y3, rfl⟩ | ⟨y3, rfl⟩)⟩
    · have hP := hP.sub (ws' := wX h0 h1 h2 h3 h4 h5 h6 h7 h8 h9 cI cJ d r lc bg w rm k pn fa e1 am dd rt b pd pt tp ++ (wM g0 g1 g2 g3 g4 cI cJ d r gb w rm lc k dr pn pa pi 1 ga e2 b rt ++ [(ho, .inl (cJ, 1, .inr (.inl (og))))])) [0, 1, 2, 3, 4, 5, 6, 7, 8, 9, 11, 12, 13, 14, 15, 10] rfl
      have hD := hD.sub (ws' := wX h0 h1 h2 h3 h4 h5 h6 h7 h8 h9 cI cJ d r lc bg w rm k pn fa e1 am dd rt b pd pt tp ++ (wM g0 g1 g2 g3 g4 cI cJ d r gb w rm lc k dr pn pa pi 1 ga e2 b rt ++ [(ho, .inl (cJ, 1, .inr (.inl (og))))])) [0, 1, 2, 3, 4, 5, 6, 7, 8, 9, 11, 12, 13, 14, 15, 10] (by decide) rfl
      refine lv_istore (lv' := [(6, .int r7), (5, .int (nI 1)), (0, .ref sb), (1, .ref h0), (2, .ref g0), (3, .ref ho), (4, .int (nI i))]) hx hb dL_law_419 hl (by decide) rfl (fun ls hl => ?_)
      refine lv_aload_n hx hb dL_law_421 rfl (lv_at hl 4 rfl) ?_
      have hPt := hP.sub (ws' := wM g0 g1 g2 g3 g4 cI cJ d r gb w rm lc k dr pn pa pi 1 ga e2 b rt) [10, 11, 12, 13, 14] rfl
      refine nk_rd (W.runV (As := []) (rest := []) ⟨hx, hb, hml, hown, hts⟩ (c_X1_thrown l D g0 g1 g2 g3 g4 cI cJ d r gb w rm lc k dr pn pa pi 1 ga e2 b rt) (cwV 0 hts gL_law_X1_thrown rfl rfl rfl (by decide +kernel) ⟨Nat.le_of_ble_eq_true rfl, Nat.le_of_ble_eq_true rfl⟩) ⟨nk_Pr.blind, va_recv hK hPt (ci := 1) (q0 := 0) rfl rfl, fun U hU hW => ⟨rfl, by rw [hU]; exact hPt, va_K.moved hW.alike hK⟩⟩ rfl rfl hl.1 rfl (lv_room (Nat.le_of_ble_eq_true rfl)) dL_law_422 ⟨by show cells + 1 + 0 ≤ 1051; omega, by show slots + 6 + 0 ≤ 9300; omega⟩) ?_
      refine W.eq (g2 := F0 m 425 ls [.int (nI 1)]) rfl ?_
      refine lv_iload hx hb dL_law_425 (lv_at hl 1 rfl) ?_
      refine nk_isame (tgt := 432) hx hb rfl dL_law_427 (by decide) ?_
      refine lv_iload hx hb dL_law_432 (lv_at hl 1 rfl) ?_
      refine nk_if_ne (tgt := 449) hx hb (by decide) dL_law_434 (by decide) (fun _ => ?_) (fun c9 => absurd c9 (by decide))
      refine lv_goto (tgt := 877) hx hb dL_law_449 (by decide) ?_
      refine W.widen (k := cells + 1) (n := slots + 6) (by omega) (by omega) ?_
      exact kk _ _ _ ⟨_, _, _, _, _, _, _, _, _, _, _, _, _, _, _, _, _, _, _, _, _, _, _, _, _, hI, hP, hD⟩ hS (lv_sub hl [2, 3, 4, 5, 6] rfl)
    · exfalso; omega
    · exfalso; omega
    · exfalso; omega
  · have hP := hP.sub (ws' := wX h0 h1 h2 h3 h4 h5 h6 h7 h8 h9 cI cJ d r lc bg w rm k pn fa e1 am dd rt b pd pt tp ++ (wM g0 g1 g2 g3 g4 cI cJ d r gb w rm lc k dr pn pa pi th ga e2 b rt ++ [(ho, .inl (cJ, 1, .inr (.inl (og))))])) [6, 7, 8, 9, 10, 11, 12, 13, 14, 15, 0, 1, 2, 3, 4, 5] rfl
    have hD := hD.sub (ws' := wX h0 h1 h2 h3 h4 h5 h6 h7 h8 h9 cI cJ d r lc bg w rm k pn fa e1 am dd rt b pd pt tp ++ (wM g0 g1 g2 g3 g4 cI cJ d r gb w rm lc k dr pn pa pi th ga e2 b rt ++ [(ho, .inl (cJ, 1, .inr (.inl (og))))])) [6, 7, 8, 9, 10, 11, 12, 13, 14, 15, 0, 1, 2, 3, 4, 5] (by decide) rfl
    refine lv_istore (lv' := [(5, .int (nI 2)), (0, .ref sb), (1, .ref h0), (2, .ref g0), (3, .ref ho), (4, .int (nI i))]) hx hb dL_law_407 hl (by decide) rfl (fun ls hl => ?_)
    refine lv_aload_n hx hb dL_law_409 rfl (lv_at hl 3 rfl) ?_
    refine lv_aload_n hx hb dL_law_410 rfl (lv_at hl 1 rfl) ?_
    refine lv_iload hx hb dL_law_411 (lv_at hl 5 rfl) ?_
    refine lv_iconst (v := nI 1) hx hb dL_law_413 (by decide +kernel) ?_
    refine nk_iadd hx hb dL_law_414 ?_
    refine va_sld hx hb hX hbl hbA hS (vp_in_nI (by omega) (by omega)) dL_law_415 ?_
    refine nk_topi (y := q1) (by rw [nI_clamp (by omega)]; exact hq1) ?_
    have hPm := hP.sub (ws' := wM g0 g1 g2 g3 g4 cI cJ d r gb w rm lc k dr pn pa pi th ga e2 b rt) [10, 11, 12, 13, 14] rfl
    have hDm := hD.sub (ws' := wM g0 g1 g2 g3 g4 cI cJ d r gb w rm lc k dr pn pa pi th ga e2 b rt) [10, 11, 12, 13, 14] (by decide) rfl
    refine nk_icall (wr := wX h0 h1 h2 h3 h4 h5 h6 h7 h8 h9 cI cJ d r lc bg w rm k pn fa e1 am dd rt b pd pt tp ++ [(ho, .inl (cJ, 1, .inr (.inl (og))))]) (va_runV (As := [.int q1]) (rest := []) ⟨hx, hb, hml, hown, hts⟩ (c_X1_pass l D g0 g1 g2 g3 g4 cI cJ d r gb w rm lc k dr pn pa pi th ga e2 b rt H.size q1 z1 a1 hzz1 hpp1 hgb2 hlc he2 hd hk hroll hrt) (cwV 1 hts gL_law_X1_pass rfl rfl rfl (by decide +kernel) ⟨Nat.le_of_ble_eq_true rfl, Nat.le_of_ble_eq_true rfl⟩) ⟨nk_Pw.blind, va_recv hK hPm (ci := 1) (q0 := 0) rfl rfl, fun U hU hW => ⟨rfl, by rw [hU], by rw [hU]; exact hPm, va_K.moved hW.alike hK, hDm.weaken (fun _ _ _ _ => trivial)⟩⟩ rfl rfl hl.1 rfl (lv_room (Nat.le_of_ble_eq_true rfl)) dL_law_416 ⟨by show cells + 1 + 0 ≤ 1051; omega, by show slots + 6 + 0 ≤ 9300; omega⟩) hP hD hS hA [10, 11, 12, 13, 14] [0, 1, 2, 3, 4, 5, 6, 7, 8, 9, 15] rfl rfl rfl (by decide) (fun r7 w1 H locs hw9 hP hD hS hk9 => ?_)
    try simp only [halE, hlsE, hmxE] at hw9
    rcases hw9 with ⟨y1, rfl⟩ | ⟨y1, y2, rfl⟩ | ⟨y1, y2, rfl, (⟨y3, rfl⟩ | ⟨y3, rfl⟩)⟩
    · exfalso; omega
    · have hP := hP.sub (ws' := wX h0 h1 h2 h3 h4 h5 h6 h7 h8 h9 cI cJ d r lc bg w rm k pn fa e1 am dd rt b pd pt tp ++ (wM g0 g1 g2 g3 g4 cI cJ d r gb w rm lc k dr pn pa pi 2 ga e2 b rt ++ [(ho, .inl (cJ, 1, .inr (.inl (og))))])) [0, 1, 2, 3, 4, 5, 6, 7, 8, 9, 11, 12, 13, 14, 15, 10] rfl
      have hD := hD.sub (ws' := wX h0 h1 h2 h3 h4 h5 h6 h7 h8 h9 cI cJ d r lc bg w rm k pn fa e1 am dd rt b pd pt tp ++ (wM g0 g1 g2 g3 g4 cI cJ d r gb w rm lc k dr pn pa pi 2 ga e2 b rt ++ [(ho, .inl (cJ, 1, .inr (.inl (og))))])) [0, 1, 2, 3, 4, 5, 6, 7, 8, 9, 11, 12, 13, 14, 15, 10] (by decide) rfl
      refine lv_istore (lv' := [(6, .int r7), (5, .int (nI 2)), (0, .ref sb), (1, .ref h0), (2, .ref g0), (3, .ref ho), (4, .int (nI i))]) hx hb dL_law_419 hl (by decide) rfl (fun ls hl => ?_)
      refine lv_aload_n hx hb dL_law_421 rfl (lv_at hl 4 rfl) ?_
      have hPt := hP.sub (ws' := wM g0 g1 g2 g3 g4 cI cJ d r gb w rm lc k dr pn pa pi 2 ga e2 b rt) [10, 11, 12, 13, 14] rfl
      refine nk_rd (W.runV (As := []) (rest := []) ⟨hx, hb, hml, hown, hts⟩ (c_X1_thrown l D g0 g1 g2 g3 g4 cI cJ d r gb w rm lc k dr pn pa pi 2 ga e2 b rt) (cwV 0 hts gL_law_X1_thrown rfl rfl rfl (by decide +kernel) ⟨Nat.le_of_ble_eq_true rfl, Nat.le_of_ble_eq_true rfl⟩) ⟨nk_Pr.blind, va_recv hK hPt (ci := 1) (q0 := 0) rfl rfl, fun U hU hW => ⟨rfl, by rw [hU]; exact hPt, va_K.moved hW.alike hK⟩⟩ rfl rfl hl.1 rfl (lv_room (Nat.le_of_ble_eq_true rfl)) dL_law_422 ⟨by show cells + 1 + 0 ≤ 1051; omega, by show slots + 6 + 0 ≤ 9300; omega⟩) ?_
      refine W.eq (g2 := F0 m 425 ls [.int (nI 2)]) rfl ?_
      refine lv_iload hx hb dL_law_425 (lv_at hl 1 rfl) ?_
      refine nk_isame (tgt := 432) hx hb rfl dL_law_427 (by decide) ?_
      refine lv_iload hx hb dL_law_432 (lv_at hl 1 rfl) ?_
      refine nk_if_ne (tgt := 449) hx hb (by decide) dL_law_434 (by decide) (fun _ => ?_) (fun c9 => absurd c9 (by decide))
      refine lv_goto (tgt := 877) hx hb dL_law_449 (by decide) ?_
      refine W.widen (k := cells + 1) (n := slots + 6) (by omega) (by omega) ?_
      exact kk _ _ _ ⟨_, _, _, _, _, _, _, _, _, _, _, _, _, _, _, _, _, _, _, _, _, _, _, _, _, hI, hP, hD⟩ hS (lv_sub hl [2, 3, 4, 5, 6] rfl)
    · exfalso; omega
    · exfalso; omega
set_option maxHeartbeats 8000000 in
set_option maxRecDepth 100000 in
theorem lc_end {p : Program} {l : Launch} {e : Env} {s : State} {m : MethodId} {below : List Frame} {meth : Method} {c : Code} {sb L : Nat} {xs : Nat → Int32} {D : va_G} {h0 h1 h2 h3 h4 h5 h6 h7 h8 h9 g0 g1 g2 g3 g4 ho : Nat} {cI cJ : ClassId} {H : Heap} {locs : List Loc} {cells slots : Nat} {Q : State → Prop} {ls : Array Slot} {i : Nat}
    (C0 : lw_At p s m meth c sb L xs) (hfl : l.stackTraces = false) (hK : va_K D vwCl (tX cI cJ) s) (hZ : nk_Z (fun q : Nat => s.heap.size ≤ q) s s.heap) (hc9 : cells + 1 ≤ 1051) (hs9 : slots + 6 ≤ 9300) (hi5 : i + 5 ≤ L) (hL : L ≤ 2560) (hSt : nk_St D (fun q : Nat => s.heap.size ≤ q) h0 h1 h2 h3 h4 h5 h6 h7 h8 h9 g0 g1 g2 g3 g4 ho cI cJ H) (hS : va_S (fun q : Nat => s.heap.size ≤ q) s.heap H locs) (hl : lv_has ls 8 [(0, .ref sb), (1, .ref h0), (2, .ref g0), (3, .ref ho), (4, .int (nI i))])
    (kk : ∀ (H1 : Heap) (locs1 : List Loc) (ls1 : Array Slot), nk_St D (fun q : Nat => s.heap.size ≤ q) h0 h1 h2 h3 h4 h5 h6 h7 h8 h9 g0 g1 g2 g3 g4 ho cI cJ H1 → va_S (fun q : Nat => s.heap.size ≤ q) s.heap H1 locs1 → lv_has ls1 8 [(0, .ref sb), (1, .ref h0), (2, .ref g0), (3, .ref ho), (4, .int (nI i))] → W p l e room_1 s m #[Value.ref sb] below meth c H1 locs1 (cells + 1) (slots + 6) Q (F0 m 877 ls1 [])) : W p l e room_1 s m #[Value.ref sb] below meth c H locs cells slots Q (F0 m 452 ls []) := by
  obtain ⟨hx, hb, hr, hml, hown, hts0, hX, hbl, hlocks, hgv⟩ := C0
  have hts : ∀ w ∈ wsL_law, w.before #[Value.ref sb] s = true := fun w h => hts0 w (wsL_law_in w h)
  have hown : s.vm.findClass RL = some m.cls := hown
  have hA : ∀ q : Nat, s.heap.size ≤ q → (fun q : Nat => s.heap.size ≤ q) q := fun _ h => h
  have hbA : ¬ (fun q : Nat => s.heap.size ≤ q) sb := Nat.not_le.mpr hbl
  obtain ⟨d, r, lc, bg, w, rm, k, pn, fa, e1, am, dd, rt, b, pd, pt, tp, gb, dr, pa, pi, ga, e2, th, og, hI, hP, hD⟩ := hSt
  obtain ⟨hlc, hd, hk, hpn, hbg, hw, hrm, he, hed, hfa, ham, hpd, hpd2, hpt, hbs, hb9, hrt, hdd, hroll, hh1, hh2, hh3, htp, hsa, hk0, he2, he2d, hga, hgb, hgb2, hpi, hdr, hpa1, he20, he21, hk0m, he28, hgbz, halE, hmxE, hlsE⟩ := Inv_f hI
  have hgbp : 0 < gb ↔ 0 < lc := by omega
  obtain ⟨q1, hq1⟩ : ∃ q, xs (i + 1) = q := ⟨_, rfl⟩
  obtain ⟨z1, hzz1⟩ : ∃ z, q1.toInt = z := ⟨_, rfl⟩
  obtain ⟨a1, hpp1, hza1⟩ := nk_arg hzz1
  refine lv_aload_n hx hb dL_law_452 rfl (lv_at hl 1 rfl) ?_
  refine lv_aload_n hx hb dL_law_453 rfl (lv_at hl 0 rfl) ?_
  refine lv_iload hx hb dL_law_454 (lv_at hl 4 rfl) ?_
  refine lv_iconst (v := nI 1) hx hb dL_law_456 (by decide +kernel) ?_
  refine nk_iadd hx hb dL_law_457 ?_
  refine va_sld hx hb hX hbl hbA hS (vp_in_nI (by omega) (by omega)) dL_law_458 ?_
  refine nk_topi (y := q1) (by rw [nI_clamp (by omega)]; exact hq1) ?_
  refine lv_aload_n hx hb dL_law_459 rfl (lv_at hl 3 rfl) ?_
  have hPc := hP.sub (ws' := wX h0 h1 h2 h3 h4 h5 h6 h7 h8 h9 cI cJ d r lc bg w rm k pn fa e1 am dd rt b pd pt tp ++ [(ho, .inl (cJ, 1, .inr (.inl (og))))]) [0, 1, 2, 3, 4, 5, 6, 7, 8, 9, 15] rfl
  have hDc := hD.sub (ws' := wX h0 h1 h2 h3 h4 h5 h6 h7 h8 h9 cI cJ d r lc bg w rm k pn fa e1 am dd rt b pd pt tp ++ [(ho, .inl (cJ, 1, .inr (.inl (og))))]) [0, 1, 2, 3, 4, 5, 6, 7, 8, 9, 15] (by decide) rfl
  have hFc := va_free (wc := wX h0 h1 h2 h3 h4 h5 h6 h7 h8 h9 cI cJ d r lc bg w rm k pn fa e1 am dd rt b pd pt tp ++ [(ho, .inl (cJ, 1, .inr (.inl (og))))]) hD hS hA [0, 1, 2, 3, 4, 5, 6, 7, 8, 9, 15] rfl
  have hZH := hZ.kept hS.2.1
  refine nk_icall (mc := 1) (ms := 6) (wr := wM g0 g1 g2 g3 g4 cI cJ d r gb w rm lc k dr pn pa pi th ga e2 b rt) (vx_runSW (As := [.ref h0, .int q1, .ref ho]) (rest := []) ⟨hx, hb, hml, hown, hts⟩ (c_L_end l hfl D h0 h1 h2 h3 h4 h5 h6 h7 h8 h9 cI cJ d r lc bg w rm k pn fa e1 am dd rt b pd pt tp ho og H.size q1 z1 a1 hzz1 hpp1 hlc he hd) (vx_cwSW 3 hts gL_law_L_end rfl rfl rfl (by decide +kernel) ⟨Nat.le_of_ble_eq_true rfl, Nat.le_of_ble_eq_true rfl⟩) ⟨nk_Px.blind, fun U hU hW => ⟨rfl, by rw [hU], by rw [hU]; exact hPc, va_K.moved hW.alike hK, hDc.weaken (fun _ _ _ _ => trivial), by rw [hU]; exact nk_Z.go hZH hW (fun q h => hFc q h)⟩⟩ rfl rfl hl.1 rfl (lv_room (Nat.le_of_ble_eq_true rfl)) dL_law_460 ⟨by show cells + 1 ≤ 1051; omega, by show slots + 6 ≤ 9300; omega⟩) hP hD hS hA [0, 1, 2, 3, 4, 5, 6, 7, 8, 9, 15] [10, 11, 12, 13, 14] rfl rfl rfl (by decide) (fun r9 w1 H locs hw9 hP hD hS hk9 => ?_)
  rcases hw9 with ⟨rfl, r8, w2, ⟨x1, x2, rfl, rfl⟩, rfl⟩ | ⟨rfl, x1, rfl⟩ | ⟨rfl, x1, rfl⟩
  · have hP := hP.sub (ws' := wX h0 h1 h2 h3 h4 h5 h6 h7 h8 h9 cI cJ d r lc bg w rm k pn fa (va_up e1 a1 (d + 1)) am dd rt b pd pt tp ++ (wM g0 g1 g2 g3 g4 cI cJ d r gb w rm lc k dr pn pa pi th ga e2 b rt ++ [(ho, .inl (cJ, 1, .inr (.inl (vp_updL og 0 ((nI (alive (va_up e1 a1 (d + 1)) lc)).toInt64)))))])) [6, 7, 8, 9, 10, 11, 12, 13, 14, 15, 0, 1, 2, 3, 4, 5] rfl
    have hD := hD.sub (ws' := wX h0 h1 h2 h3 h4 h5 h6 h7 h8 h9 cI cJ d r lc bg w rm k pn fa (va_up e1 a1 (d + 1)) am dd rt b pd pt tp ++ (wM g0 g1 g2 g3 g4 cI cJ d r gb w rm lc k dr pn pa pi th ga e2 b rt ++ [(ho, .inl (cJ, 1, .inr (.inl (vp_updL og 0 ((nI (alive (va_up e1 a1 (d + 1)) lc)).toInt64)))))])) [6, 7, 8, 9, 10, 11, 12, 13, 14, 15, 0, 1, 2, 3, 4, 5] (by decide) rfl
    refine lv_istore (lv' := [(5, .int (nI 0)), (0, .ref sb), (1, .ref h0), (2, .ref g0), (3, .ref ho), (4, .int (nI i))]) hx hb dL_law_463 hl (by decide) rfl (fun ls hl => ?_)
    refine lv_aload_n hx hb dL_law_465 rfl (lv_at hl 3 rfl) ?_
    refine lv_aload_n hx hb dL_law_466 rfl (lv_at hl 1 rfl) ?_
    refine lv_iload hx hb dL_law_467 (lv_at hl 5 rfl) ?_
    refine lv_iconst (v := nI 1) hx hb dL_law_469 (by decide +kernel) ?_
    refine nk_iadd hx hb dL_law_470 ?_
    refine va_sld hx hb hX hbl hbA hS (vp_in_nI (by omega) (by omega)) dL_law_471 ?_
    refine nk_topi (y := q1) (by rw [nI_clamp (by omega)]; exact hq1) ?_
    have hPm := hP.sub (ws' := wM g0 g1 g2 g3 g4 cI cJ d r gb w rm lc k dr pn pa pi th ga e2 b rt) [10, 11, 12, 13, 14] rfl
    have hDm := hD.sub (ws' := wM g0 g1 g2 g3 g4 cI cJ d r gb w rm lc k dr pn pa pi th ga e2 b rt) [10, 11, 12, 13, 14] (by decide) rfl
    refine nk_icall (wr := wX h0 h1 h2 h3 h4 h5 h6 h7 h8 h9 cI cJ d r lc bg w rm k pn fa (va_up e1 a1 (d + 1)) am dd rt b pd pt tp ++ [(ho, .inl (cJ, 1, .inr (.inl (vp_updL og 0 ((nI (alive (va_up e1 a1 (d + 1)) lc)).toInt64)))))]) (va_runV (As := [.int q1]) (rest := []) ⟨hx, hb, hml, hown, hts⟩ (c_X1_end l D g0 g1 g2 g3 g4 cI cJ d r gb w rm lc k dr pn pa pi th ga e2 b rt H.size q1 z1 a1 hzz1 hpp1 hlc he2 hd) (cwV 1 hts gL_law_X1_end rfl rfl rfl (by decide +kernel) ⟨Nat.le_of_ble_eq_true rfl, Nat.le_of_ble_eq_true rfl⟩) ⟨nk_Pw.blind, va_recv hK hPm (ci := 1) (q0 := 0) rfl rfl, fun U hU hW => ⟨rfl, by rw [hU], by rw [hU]; exact hPm, va_K.moved hW.alike hK, hDm.weaken (fun _ _ _ _ => trivial)⟩⟩ rfl rfl hl.1 rfl (lv_room (Nat.le_of_ble_eq_true rfl)) dL_law_472 ⟨by show cells + 1 + 0 ≤ 1051; omega, by show slots + 6 + 0 ≤ 9300; omega⟩) hP hD hS hA [10, 11, 12, 13, 14] [0, 1, 2, 3, 4, 5, 6, 7, 8, 9, 15] rfl rfl rfl (by decide) (fun r7 w1 H locs hw9 hP hD hS hk9 => ?_)
    have hee := (hI.2.1 a1 (by omega)).2.2.1
    try simp only [halE, hlsE, hmxE] at hw9
    rcases hw9 with ⟨y1, rfl⟩ | ⟨y1, y2, rfl⟩ | ⟨y1, y2, rfl, rfl⟩
    · exfalso; omega
    · exfalso; omega
    · have hP := hP.sub (ws' := wX h0 h1 h2 h3 h4 h5 h6 h7 h8 h9 cI cJ d r lc bg w rm k pn fa (va_up e1 a1 (d + 1)) am dd rt b pd pt tp ++ (wM g0 g1 g2 g3 g4 cI cJ d r gb w rm lc k dr pn pa pi 0 ga (va_up e2 a1 (d + 1)) b rt ++ [(ho, .inl (cJ, 1, .inr (.inl (vp_updL og 0 ((nI (alive (va_up e1 a1 (d + 1)) lc)).toInt64)))))])) [0, 1, 2, 3, 4, 5, 6, 7, 8, 9, 11, 12, 13, 14, 15, 10] rfl
      have hD := hD.sub (ws' := wX h0 h1 h2 h3 h4 h5 h6 h7 h8 h9 cI cJ d r lc bg w rm k pn fa (va_up e1 a1 (d + 1)) am dd rt b pd pt tp ++ (wM g0 g1 g2 g3 g4 cI cJ d r gb w rm lc k dr pn pa pi 0 ga (va_up e2 a1 (d + 1)) b rt ++ [(ho, .inl (cJ, 1, .inr (.inl (vp_updL og 0 ((nI (alive (va_up e1 a1 (d + 1)) lc)).toInt64)))))])) [0, 1, 2, 3, 4, 5, 6, 7, 8, 9, 11, 12, 13, 14, 15, 10] (by decide) rfl
      refine lv_istore (lv' := [(6, .int (nI (alive (va_up e2 a1 (d + 1)) lc))), (5, .int (nI 0)), (0, .ref sb), (1, .ref h0), (2, .ref g0), (3, .ref ho), (4, .int (nI i))]) hx hb dL_law_475 hl (by decide) rfl (fun ls hl => ?_)
      refine lv_aload_n hx hb dL_law_477 rfl (lv_at hl 4 rfl) ?_
      have hPt := hP.sub (ws' := wM g0 g1 g2 g3 g4 cI cJ d r gb w rm lc k dr pn pa pi 0 ga (va_up e2 a1 (d + 1)) b rt) [10, 11, 12, 13, 14] rfl
      refine nk_rd (W.runV (As := []) (rest := []) ⟨hx, hb, hml, hown, hts⟩ (c_X1_thrown l D g0 g1 g2 g3 g4 cI cJ d r gb w rm lc k dr pn pa pi 0 ga (va_up e2 a1 (d + 1)) b rt) (cwV 0 hts gL_law_X1_thrown rfl rfl rfl (by decide +kernel) ⟨Nat.le_of_ble_eq_true rfl, Nat.le_of_ble_eq_true rfl⟩) ⟨nk_Pr.blind, va_recv hK hPt (ci := 1) (q0 := 0) rfl rfl, fun U hU hW => ⟨rfl, by rw [hU]; exact hPt, va_K.moved hW.alike hK⟩⟩ rfl rfl hl.1 rfl (lv_room (Nat.le_of_ble_eq_true rfl)) dL_law_478 ⟨by show cells + 1 + 0 ≤ 1051; omega, by show slots + 6 + 0 ≤ 9300; omega⟩) ?_
      refine W.eq (g2 := F0 m 481 ls [.int (nI 0)]) rfl ?_
      refine lv_iload hx hb dL_law_481 (lv_at hl 1 rfl) ?_
      refine nk_isame (tgt := 488) hx hb rfl dL_law_483 (by decide) ?_
      refine lv_iload hx hb dL_law_488 (lv_at hl 1 rfl) ?_
      refine nk_if_ne (tgt := 505) hx hb (by decide) dL_law_490 (by decide) (fun c9 => absurd c9 (by decide)) (fun _ => ?_)
      refine lv_aload_n hx hb dL_law_493 rfl (lv_at hl 5 rfl) ?_
      refine lv_iconst (v := nI 0) hx hb dL_law_494 (by decide +kernel) ?_
      refine va_lald hx hb hK hP 15 1 rfl rfl (vp_in_nI (by decide) (by decide)) dL_law_495 ?_
      refine nk_topl (y := (nI (alive (va_up e1 a1 (d + 1)) lc)).toInt64) nk_out ?_
      refine lv_iload hx hb dL_law_496 (lv_at hl 0 rfl) ?_
      refine lv_i2l hx hb dL_law_498 rfl ?_
      refine nk_lsame (tgt := 505) hx hb (by rw [alive_congr (f := va_up e2 a1 (d + 1)) (g := va_up e1 a1 (d + 1)) lc (fun j hj => by show (if j = a1 then d + 1 else e2 j) = (if j = a1 then d + 1 else e1 j); rw [(hI.2.1 j hj).2.2.1])]) dL_law_499 dL_law_500 (by decide) ?_
      refine lv_goto (tgt := 877) hx hb dL_law_505 (by decide) ?_
      refine W.widen (k := cells + 1) (n := slots + 6) (by omega) (by omega) ?_
      exact kk _ _ _ ⟨_, _, _, _, _, _, _, _, _, _, _, _, _, _, _, _, _, _, _, _, _, _, _, _, _, Inv_end hI (by omega) x2, hP, hD⟩ hS (lv_sub hl [2, 3, 4, 5, 6] rfl)
  · have hP := hP.sub (ws' := wX h0 h1 h2 h3 h4 h5 h6 h7 h8 h9 cI cJ d r lc bg w rm k pn fa e1 am dd rt b pd pt tp ++ (wM g0 g1 g2 g3 g4 cI cJ d r gb w rm lc k dr pn pa pi th ga e2 b rt ++ [(ho, .inl (cJ, 1, .inr (.inl (og))))])) [6, 7, 8, 9, 10, 11, 12, 13, 14, 15, 0, 1, 2, 3, 4, 5] rfl
    have hD := hD.sub (ws' := wX h0 h1 h2 h3 h4 h5 h6 h7 h8 h9 cI cJ d r lc bg w rm k pn fa e1 am dd rt b pd pt tp ++ (wM g0 g1 g2 g3 g4 cI cJ d r gb w rm lc k dr pn pa pi th ga e2 b rt ++ [(ho, .inl (cJ, 1, .inr (.inl (og))))])) [6, 7, 8, 9, 10, 11, 12, 13, 14, 15, 0, 1, 2, 3, 4, 5] (by decide) rfl
    refine lv_istore (lv' := [(5, .int (nI 1)), (0, .ref sb), (1, .ref h0), (2, .ref g0), (3, .ref ho), (4, .int (nI i))]) hx hb dL_law_463 hl (by decide) rfl (fun ls hl => ?_)
    refine lv_aload_n hx hb dL_law_465 rfl (lv_at hl 3 rfl) ?_
    refine lv_aload_n hx hb dL_law_466 rfl (lv_at hl 1 rfl) ?_
    refine lv_iload hx hb dL_law_467 (lv_at hl 5 rfl) ?_
    refine lv_iconst (v := nI 1) hx hb dL_law_469 (by decide +kernel) ?_
    refine nk_iadd hx hb dL_law_470 ?_
    refine va_sld hx hb hX hbl hbA hS (vp_in_nI (by omega) (by omega)) dL_law_471 ?_
    refine nk_topi (y := q1) (by rw [nI_clamp (by omega)]; exact hq1) ?_
    have hPm := hP.sub (ws' := wM g0 g1 g2 g3 g4 cI cJ d r gb w rm lc k dr pn pa pi th ga e2 b rt) [10, 11, 12, 13, 14] rfl
    have hDm := hD.sub (ws' := wM g0 g1 g2 g3 g4 cI cJ d r gb w rm lc k dr pn pa pi th ga e2 b rt) [10, 11, 12, 13, 14] (by decide) rfl
    refine nk_icall (wr := wX h0 h1 h2 h3 h4 h5 h6 h7 h8 h9 cI cJ d r lc bg w rm k pn fa e1 am dd rt b pd pt tp ++ [(ho, .inl (cJ, 1, .inr (.inl (og))))]) (va_runV (As := [.int q1]) (rest := []) ⟨hx, hb, hml, hown, hts⟩ (c_X1_end l D g0 g1 g2 g3 g4 cI cJ d r gb w rm lc k dr pn pa pi th ga e2 b rt H.size q1 z1 a1 hzz1 hpp1 hlc he2 hd) (cwV 1 hts gL_law_X1_end rfl rfl rfl (by decide +kernel) ⟨Nat.le_of_ble_eq_true rfl, Nat.le_of_ble_eq_true rfl⟩) ⟨nk_Pw.blind, va_recv hK hPm (ci := 1) (q0 := 0) rfl rfl, fun U hU hW => ⟨rfl, by rw [hU], by rw [hU]; exact hPm, va_K.moved hW.alike hK, hDm.weaken (fun _ _ _ _ => trivial)⟩⟩ rfl rfl hl.1 rfl (lv_room (Nat.le_of_ble_eq_true rfl)) dL_law_472 ⟨by show cells + 1 + 0 ≤ 1051; omega, by show slots + 6 + 0 ≤ 9300; omega⟩) hP hD hS hA [10, 11, 12, 13, 14] [0, 1, 2, 3, 4, 5, 6, 7, 8, 9, 15] rfl rfl rfl (by decide) (fun r7 w1 H locs hw9 hP hD hS hk9 => ?_)
    try simp only [halE, hlsE, hmxE] at hw9
    rcases hw9 with ⟨y1, rfl⟩ | ⟨y1, y2, rfl⟩ | ⟨y1, y2, rfl, rfl⟩
    · have hP := hP.sub (ws' := wX h0 h1 h2 h3 h4 h5 h6 h7 h8 h9 cI cJ d r lc bg w rm k pn fa e1 am dd rt b pd pt tp ++ (wM g0 g1 g2 g3 g4 cI cJ d r gb w rm lc k dr pn pa pi 1 ga e2 b rt ++ [(ho, .inl (cJ, 1, .inr (.inl (og))))])) [0, 1, 2, 3, 4, 5, 6, 7, 8, 9, 11, 12, 13, 14, 15, 10] rfl
      have hD := hD.sub (ws' := wX h0 h1 h2 h3 h4 h5 h6 h7 h8 h9 cI cJ d r lc bg w rm k pn fa e1 am dd rt b pd pt tp ++ (wM g0 g1 g2 g3 g4 cI cJ d r gb w rm lc k dr pn pa pi 1 ga e2 b rt ++ [(ho, .inl (cJ, 1, .inr (.inl (og))))])) [0, 1, 2, 3, 4, 5, 6, 7, 8, 9, 11, 12, 13, 14, 15, 10] (by decide) rfl
      refine lv_istore (lv' := [(6, .int r7), (5, .int (nI 1)), (0, .ref sb), (1, .ref h0), (2, .ref g0), (3, .ref ho), (4, .int (nI i))]) hx hb dL_law_475 hl (by decide) rfl (fun ls hl => ?_)
      refine lv_aload_n hx hb dL_law_477 rfl (lv_at hl 4 rfl) ?_
      have hPt := hP.sub (ws' := wM g0 g1 g2 g3 g4 cI cJ d r gb w rm lc k dr pn pa pi 1 ga e2 b rt) [10, 11, 12, 13, 14] rfl
      refine nk_rd (W.runV (As := []) (rest := []) ⟨hx, hb, hml, hown, hts⟩ (c_X1_thrown l D g0 g1 g2 g3 g4 cI cJ d r gb w rm lc k dr pn pa pi 1 ga e2 b rt) (cwV 0 hts gL_law_X1_thrown rfl rfl rfl (by decide +kernel) ⟨Nat.le_of_ble_eq_true rfl, Nat.le_of_ble_eq_true rfl⟩) ⟨nk_Pr.blind, va_recv hK hPt (ci := 1) (q0 := 0) rfl rfl, fun U hU hW => ⟨rfl, by rw [hU]; exact hPt, va_K.moved hW.alike hK⟩⟩ rfl rfl hl.1 rfl (lv_room (Nat.le_of_ble_eq_true rfl)) dL_law_478 ⟨by show cells + 1 + 0 ≤ 1051; omega, by show slots + 6 + 0 ≤ 9300; omega⟩) ?_
      refine W.eq (g2 := F0 m 481 ls [.int (nI 1)]) rfl ?_
      refine lv_iload hx hb dL_law_481 (lv_at hl 1 rfl) ?_
      refine nk_isame (tgt := 488) hx hb rfl dL_law_483 (by decide) ?_
      refine lv_iload hx hb dL_law_488 (lv_at hl 1 rfl) ?_
      refine nk_if_ne (tgt := 505) hx hb (by decide) dL_law_490 (by decide) (fun _ => ?_) (fun c9 => absurd c9 (by decide))
      refine lv_goto (tgt := 877) hx hb dL_law_505 (by decide) ?_
      refine W.widen (k := cells + 1) (n := slots + 6) (by omega) (by omega) ?_
      exact kk _ _ _ ⟨_, _, _, _, _, _, _, _, _, _, _, _, _, _, _, _, _, _, _, _, _, _, _, _, _, hI, hP, hD⟩ hS (lv_sub hl [2, 3, 4, 5, 6] rfl)
    · exfalso; omega
    · exfalso; omega
  · have hP := hP.sub (ws' := wX h0 h1 h2 h3 h4 h5 h6 h7 h8 h9 cI cJ d r lc bg w rm k pn fa e1 am dd rt b pd pt tp ++ (wM g0 g1 g2 g3 g4 cI cJ d r gb w rm lc k dr pn pa pi th ga e2 b rt ++ [(ho, .inl (cJ, 1, .inr (.inl (og))))])) [6, 7, 8, 9, 10, 11, 12, 13, 14, 15, 0, 1, 2, 3, 4, 5] rfl
    have hD := hD.sub (ws' := wX h0 h1 h2 h3 h4 h5 h6 h7 h8 h9 cI cJ d r lc bg w rm k pn fa e1 am dd rt b pd pt tp ++ (wM g0 g1 g2 g3 g4 cI cJ d r gb w rm lc k dr pn pa pi th ga e2 b rt ++ [(ho, .inl (cJ, 1, .inr (.inl (og))))])) [6, 7, 8, 9, 10, 11, 12, 13, 14, 15, 0, 1, 2, 3, 4, 5] (by decide) rfl
    refine lv_istore (lv' := [(5, .int (nI 2)), (0, .ref sb), (1, .ref h0), (2, .ref g0), (3, .ref ho), (4, .int (nI i))]) hx hb dL_law_463 hl (by decide) rfl (fun ls hl => ?_)
    refine lv_aload_n hx hb dL_law_465 rfl (lv_at hl 3 rfl) ?_
    refine lv_aload_n hx hb dL_law_466 rfl (lv_at hl 1 rfl) ?_
    refine lv_iload hx hb dL_law_467 (lv_at hl 5 rfl) ?_
    refine lv_iconst (v := nI 1) hx hb dL_law_469 (by decide +kernel) ?_
    refine nk_iadd hx hb dL_law_470 ?_
    refine va_sld hx hb hX hbl hbA hS (vp_in_nI (by omega) (by omega)) dL_law_471 ?_
    refine nk_topi (y := q1) (by rw [nI_clamp (by omega)]; exact hq1) ?_
    have hPm := hP.sub (ws' := wM g0 g1 g2 g3 g4 cI cJ d r gb w rm lc k dr pn pa pi th ga e2 b rt) [10, 11, 12, 13, 14] rfl
    have hDm := hD.sub (ws' := wM g0 g1 g2 g3 g4 cI cJ d r gb w rm lc k dr pn pa pi th ga e2 b rt) [10, 11, 12, 13, 14] (by decide) rfl
    refine nk_icall (wr := wX h0 h1 h2 h3 h4 h5 h6 h7 h8 h9 cI cJ d r lc bg w rm k pn fa e1 am dd rt b pd pt tp ++ [(ho, .inl (cJ, 1, .inr (.inl (og))))]) (va_runV (As := [.int q1]) (rest := []) ⟨hx, hb, hml, hown, hts⟩ (c_X1_end l D g0 g1 g2 g3 g4 cI cJ d r gb w rm lc k dr pn pa pi th ga e2 b rt H.size q1 z1 a1 hzz1 hpp1 hlc he2 hd) (cwV 1 hts gL_law_X1_end rfl rfl rfl (by decide +kernel) ⟨Nat.le_of_ble_eq_true rfl, Nat.le_of_ble_eq_true rfl⟩) ⟨nk_Pw.blind, va_recv hK hPm (ci := 1) (q0 := 0) rfl rfl, fun U hU hW => ⟨rfl, by rw [hU], by rw [hU]; exact hPm, va_K.moved hW.alike hK, hDm.weaken (fun _ _ _ _ => trivial)⟩⟩ rfl rfl hl.1 rfl (lv_room (Nat.le_of_ble_eq_true rfl)) dL_law_472 ⟨by show cells + 1 + 0 ≤ 1051; omega, by show slots + 6 + 0 ≤ 9300; omega⟩) hP hD hS hA [10, 11, 12, 13, 14] [0, 1, 2, 3, 4, 5, 6, 7, 8, 9, 15] rfl rfl rfl (by decide) (fun r7 w1 H locs hw9 hP hD hS hk9 => ?_)
    have hee := (hI.2.1 a1 (by omega)).2.2.1
    try simp only [halE, hlsE, hmxE] at hw9
    rcases hw9 with ⟨y1, rfl⟩ | ⟨y1, y2, rfl⟩ | ⟨y1, y2, rfl, rfl⟩
    · exfalso; omega
    · have hP := hP.sub (ws' := wX h0 h1 h2 h3 h4 h5 h6 h7 h8 h9 cI cJ d r lc bg w rm k pn fa e1 am dd rt b pd pt tp ++ (wM g0 g1 g2 g3 g4 cI cJ d r gb w rm lc k dr pn pa pi 2 ga e2 b rt ++ [(ho, .inl (cJ, 1, .inr (.inl (og))))])) [0, 1, 2, 3, 4, 5, 6, 7, 8, 9, 11, 12, 13, 14, 15, 10] rfl
      have hD := hD.sub (ws' := wX h0 h1 h2 h3 h4 h5 h6 h7 h8 h9 cI cJ d r lc bg w rm k pn fa e1 am dd rt b pd pt tp ++ (wM g0 g1 g2 g3 g4 cI cJ d r gb w rm lc k dr pn pa pi 2 ga e2 b rt ++ [(ho, .inl (cJ, 1, .inr (.inl (og))))])) [0, 1, 2, 3, 4, 5, 6, 7, 8, 9, 11, 12, 13, 14, 15, 10] (by decide) rfl
      refine lv_istore (lv' := [(6, .int r7), (5, .int (nI 2)), (0, .ref sb), (1, .ref h0), (2, .ref g0), (3, .ref ho), (4, .int (nI i))]) hx hb dL_law_475 hl (by decide) rfl (fun ls hl => ?_)
      refine lv_aload_n hx hb dL_law_477 rfl (lv_at hl 4 rfl) ?_
      have hPt := hP.sub (ws' := wM g0 g1 g2 g3 g4 cI cJ d r gb w rm lc k dr pn pa pi 2 ga e2 b rt) [10, 11, 12, 13, 14] rfl
      refine nk_rd (W.runV (As := []) (rest := []) ⟨hx, hb, hml, hown, hts⟩ (c_X1_thrown l D g0 g1 g2 g3 g4 cI cJ d r gb w rm lc k dr pn pa pi 2 ga e2 b rt) (cwV 0 hts gL_law_X1_thrown rfl rfl rfl (by decide +kernel) ⟨Nat.le_of_ble_eq_true rfl, Nat.le_of_ble_eq_true rfl⟩) ⟨nk_Pr.blind, va_recv hK hPt (ci := 1) (q0 := 0) rfl rfl, fun U hU hW => ⟨rfl, by rw [hU]; exact hPt, va_K.moved hW.alike hK⟩⟩ rfl rfl hl.1 rfl (lv_room (Nat.le_of_ble_eq_true rfl)) dL_law_478 ⟨by show cells + 1 + 0 ≤ 1051; omega, by show slots + 6 + 0 ≤ 9300; omega⟩) ?_
      refine W.eq (g2 := F0 m 481 ls [.int (nI 2)]) rfl ?_
      refine lv_iload hx hb dL_law_481 (lv_at hl 1 rfl) ?_
      refine nk_isame (tgt := 488) hx hb rfl dL_law_483 (by decide) ?_
      refine lv_iload hx hb dL_law_488 (lv_at hl 1 rfl) ?_
      refine nk_if_ne (tgt := 505) hx hb (by decide) dL_law_490 (by decide) (fun _ => ?_) (fun c9 => absurd c9 (by decide))
      refine lv_goto (tgt := 877) hx hb dL_law_505 (by decide) ?_
      refine W.widen (k := cells + 1) (n := slots + 6) (by omega) (by omega) ?_
      exact kk _ _ _ ⟨_, _, _, _, _, _, _, _, _, _, _, _, _, _, _, _, _, _, _, _, _, _, _, _, _, hI, hP, hD⟩ hS (lv_sub hl [2, 3, 4, 5, 6] rfl)
    · exfalso; omega
set_option maxHeartbeats 8000000 in
set_option maxRecDepth 100000 in
theorem lc_value {p : Program} {l : Launch} {e : Env} {s : State} {m : MethodId} {below : List Frame} {meth : Method} {c : Code} {sb L : Nat} {xs : Nat → Int32} {D : va_G} {h0 h1 h2 h3 h4 h5 h6 h7 h8 h9 g0 g1 g2 g3 g4 ho : Nat} {cI cJ : ClassId} {H : Heap} {locs : List Loc} {cells slots : Nat} {Q : State → Prop} {ls : Array Slot} {i : Nat}
    (C0 : lw_At p s m meth c sb L xs) (hfl : l.stackTraces = false) (hK : va_K D vwCl (tX cI cJ) s) (hZ : nk_Z (fun q : Nat => s.heap.size ≤ q) s s.heap) (hc9 : cells + 1 ≤ 1051) (hs9 : slots + 6 ≤ 9300) (hi5 : i + 5 ≤ L) (hL : L ≤ 2560) (hSt : nk_St D (fun q : Nat => s.heap.size ≤ q) h0 h1 h2 h3 h4 h5 h6 h7 h8 h9 g0 g1 g2 g3 g4 ho cI cJ H) (hS : va_S (fun q : Nat => s.heap.size ≤ q) s.heap H locs) (hl : lv_has ls 8 [(0, .ref sb), (1, .ref h0), (2, .ref g0), (3, .ref ho), (4, .int (nI i))])
    (kk : ∀ (H1 : Heap) (locs1 : List Loc) (ls1 : Array Slot), nk_St D (fun q : Nat => s.heap.size ≤ q) h0 h1 h2 h3 h4 h5 h6 h7 h8 h9 g0 g1 g2 g3 g4 ho cI cJ H1 → va_S (fun q : Nat => s.heap.size ≤ q) s.heap H1 locs1 → lv_has ls1 8 [(0, .ref sb), (1, .ref h0), (2, .ref g0), (3, .ref ho), (4, .int (nI i))] → W p l e room_1 s m #[Value.ref sb] below meth c H1 locs1 (cells + 1) (slots + 6) Q (F0 m 877 ls1 [])) : W p l e room_1 s m #[Value.ref sb] below meth c H locs cells slots Q (F0 m 508 ls []) := by
  obtain ⟨hx, hb, hr, hml, hown, hts0, hX, hbl, hlocks, hgv⟩ := C0
  have hts : ∀ w ∈ wsL_law, w.before #[Value.ref sb] s = true := fun w h => hts0 w (wsL_law_in w h)
  have hown : s.vm.findClass RL = some m.cls := hown
  have hA : ∀ q : Nat, s.heap.size ≤ q → (fun q : Nat => s.heap.size ≤ q) q := fun _ h => h
  have hbA : ¬ (fun q : Nat => s.heap.size ≤ q) sb := Nat.not_le.mpr hbl
  obtain ⟨d, r, lc, bg, w, rm, k, pn, fa, e1, am, dd, rt, b, pd, pt, tp, gb, dr, pa, pi, ga, e2, th, og, hI, hP, hD⟩ := hSt
  obtain ⟨hlc, hd, hk, hpn, hbg, hw, hrm, he, hed, hfa, ham, hpd, hpd2, hpt, hbs, hb9, hrt, hdd, hroll, hh1, hh2, hh3, htp, hsa, hk0, he2, he2d, hga, hgb, hgb2, hpi, hdr, hpa1, he20, he21, hk0m, he28, hgbz, halE, hmxE, hlsE⟩ := Inv_f hI
  have hgbp : 0 < gb ↔ 0 < lc := by omega
  obtain ⟨q1, hq1⟩ : ∃ q, xs (i + 1) = q := ⟨_, rfl⟩
  obtain ⟨z1, hzz1⟩ : ∃ z, q1.toInt = z := ⟨_, rfl⟩
  obtain ⟨a1, hpp1, hza1⟩ := nk_arg hzz1
  refine lv_aload_n hx hb dL_law_508 rfl (lv_at hl 1 rfl) ?_
  refine lv_aload_n hx hb dL_law_509 rfl (lv_at hl 0 rfl) ?_
  refine lv_iload hx hb dL_law_510 (lv_at hl 4 rfl) ?_
  refine lv_iconst (v := nI 1) hx hb dL_law_512 (by decide +kernel) ?_
  refine nk_iadd hx hb dL_law_513 ?_
  refine va_sld hx hb hX hbl hbA hS (vp_in_nI (by omega) (by omega)) dL_law_514 ?_
  refine nk_topi (y := q1) (by rw [nI_clamp (by omega)]; exact hq1) ?_
  refine lv_aload_n hx hb dL_law_515 rfl (lv_at hl 3 rfl) ?_
  have hPc := hP.sub (ws' := wX h0 h1 h2 h3 h4 h5 h6 h7 h8 h9 cI cJ d r lc bg w rm k pn fa e1 am dd rt b pd pt tp ++ [(ho, .inl (cJ, 1, .inr (.inl (og))))]) [0, 1, 2, 3, 4, 5, 6, 7, 8, 9, 15] rfl
  have hDc := hD.sub (ws' := wX h0 h1 h2 h3 h4 h5 h6 h7 h8 h9 cI cJ d r lc bg w rm k pn fa e1 am dd rt b pd pt tp ++ [(ho, .inl (cJ, 1, .inr (.inl (og))))]) [0, 1, 2, 3, 4, 5, 6, 7, 8, 9, 15] (by decide) rfl
  have hFc := va_free (wc := wX h0 h1 h2 h3 h4 h5 h6 h7 h8 h9 cI cJ d r lc bg w rm k pn fa e1 am dd rt b pd pt tp ++ [(ho, .inl (cJ, 1, .inr (.inl (og))))]) hD hS hA [0, 1, 2, 3, 4, 5, 6, 7, 8, 9, 15] rfl
  have hZH := hZ.kept hS.2.1
  refine nk_icall (mc := 1) (ms := 6) (wr := wM g0 g1 g2 g3 g4 cI cJ d r gb w rm lc k dr pn pa pi th ga e2 b rt) (vx_runSW (As := [.ref h0, .int q1, .ref ho]) (rest := []) ⟨hx, hb, hml, hown, hts⟩ (c_L_value l hfl D h0 h1 h2 h3 h4 h5 h6 h7 h8 h9 cI cJ d r lc bg w rm k pn fa e1 am dd rt b pd pt tp ho og H.size q1 z1 a1 hzz1 hpp1 hlc) (vx_cwSW 3 hts gL_law_L_value rfl rfl rfl (by decide +kernel) ⟨Nat.le_of_ble_eq_true rfl, Nat.le_of_ble_eq_true rfl⟩) ⟨nk_Px.blind, fun U hU hW => ⟨rfl, by rw [hU], by rw [hU]; exact hPc, va_K.moved hW.alike hK, hDc.weaken (fun _ _ _ _ => trivial), by rw [hU]; exact nk_Z.go hZH hW (fun q h => hFc q h)⟩⟩ rfl rfl hl.1 rfl (lv_room (Nat.le_of_ble_eq_true rfl)) dL_law_516 ⟨by show cells + 1 ≤ 1051; omega, by show slots + 6 ≤ 9300; omega⟩) hP hD hS hA [0, 1, 2, 3, 4, 5, 6, 7, 8, 9, 15] [10, 11, 12, 13, 14] rfl rfl rfl (by decide) (fun r9 w1 H locs hw9 hP hD hS hk9 => ?_)
  rcases hw9 with ⟨rfl, r8, w2, ⟨x1, x2, rfl, rfl⟩, rfl⟩ | ⟨rfl, x1, rfl⟩ | ⟨rfl, x1, rfl⟩
  · have hP := hP.sub (ws' := wX h0 h1 h2 h3 h4 h5 h6 h7 h8 h9 cI cJ d r lc bg a1 rm k pn fa e1 am dd rt b pd pt tp ++ (wM g0 g1 g2 g3 g4 cI cJ d r gb w rm lc k dr pn pa pi th ga e2 b rt ++ [(ho, .inl (cJ, 1, .inr (.inl (vp_updL og 0 ((nI w).toInt64)))))])) [6, 7, 8, 9, 10, 11, 12, 13, 14, 15, 0, 1, 2, 3, 4, 5] rfl
    have hD := hD.sub (ws' := wX h0 h1 h2 h3 h4 h5 h6 h7 h8 h9 cI cJ d r lc bg a1 rm k pn fa e1 am dd rt b pd pt tp ++ (wM g0 g1 g2 g3 g4 cI cJ d r gb w rm lc k dr pn pa pi th ga e2 b rt ++ [(ho, .inl (cJ, 1, .inr (.inl (vp_updL og 0 ((nI w).toInt64)))))])) [6, 7, 8, 9, 10, 11, 12, 13, 14, 15, 0, 1, 2, 3, 4, 5] (by decide) rfl
    refine lv_istore (lv' := [(5, .int (nI 0)), (0, .ref sb), (1, .ref h0), (2, .ref g0), (3, .ref ho), (4, .int (nI i))]) hx hb dL_law_519 hl (by decide) rfl (fun ls hl => ?_)
    refine lv_aload_n hx hb dL_law_521 rfl (lv_at hl 3 rfl) ?_
    refine lv_aload_n hx hb dL_law_522 rfl (lv_at hl 1 rfl) ?_
    refine lv_iload hx hb dL_law_523 (lv_at hl 5 rfl) ?_
    refine lv_iconst (v := nI 1) hx hb dL_law_525 (by decide +kernel) ?_
    refine nk_iadd hx hb dL_law_526 ?_
    refine va_sld hx hb hX hbl hbA hS (vp_in_nI (by omega) (by omega)) dL_law_527 ?_
    refine nk_topi (y := q1) (by rw [nI_clamp (by omega)]; exact hq1) ?_
    have hPm := hP.sub (ws' := wM g0 g1 g2 g3 g4 cI cJ d r gb w rm lc k dr pn pa pi th ga e2 b rt) [10, 11, 12, 13, 14] rfl
    have hDm := hD.sub (ws' := wM g0 g1 g2 g3 g4 cI cJ d r gb w rm lc k dr pn pa pi th ga e2 b rt) [10, 11, 12, 13, 14] (by decide) rfl
    refine nk_icall (wr := wX h0 h1 h2 h3 h4 h5 h6 h7 h8 h9 cI cJ d r lc bg a1 rm k pn fa e1 am dd rt b pd pt tp ++ [(ho, .inl (cJ, 1, .inr (.inl (vp_updL og 0 ((nI w).toInt64)))))]) (va_runV (As := [.int q1]) (rest := []) ⟨hx, hb, hml, hown, hts⟩ (c_X1_value l D g0 g1 g2 g3 g4 cI cJ d r gb w rm lc k dr pn pa pi th ga e2 b rt H.size q1 z1 a1 hzz1 hpp1 hgb2) (cwV 1 hts gL_law_X1_value rfl rfl rfl (by decide +kernel) ⟨Nat.le_of_ble_eq_true rfl, Nat.le_of_ble_eq_true rfl⟩) ⟨nk_Pw.blind, va_recv hK hPm (ci := 1) (q0 := 0) rfl rfl, fun U hU hW => ⟨rfl, by rw [hU], by rw [hU]; exact hPm, va_K.moved hW.alike hK, hDm.weaken (fun _ _ _ _ => trivial)⟩⟩ rfl rfl hl.1 rfl (lv_room (Nat.le_of_ble_eq_true rfl)) dL_law_528 ⟨by show cells + 1 + 0 ≤ 1051; omega, by show slots + 6 + 0 ≤ 9300; omega⟩) hP hD hS hA [10, 11, 12, 13, 14] [0, 1, 2, 3, 4, 5, 6, 7, 8, 9, 15] rfl rfl rfl (by decide) (fun r7 w1 H locs hw9 hP hD hS hk9 => ?_)
    try simp only [halE, hlsE, hmxE] at hw9
    rcases hw9 with ⟨y1, rfl⟩ | ⟨y1, y2, rfl⟩ | ⟨y1, y2, rfl, rfl⟩
    · exfalso; omega
    · exfalso; omega
    · have hP := hP.sub (ws' := wX h0 h1 h2 h3 h4 h5 h6 h7 h8 h9 cI cJ d r lc bg a1 rm k pn fa e1 am dd rt b pd pt tp ++ (wM g0 g1 g2 g3 g4 cI cJ d r gb a1 rm lc k dr pn pa pi 0 ga e2 b rt ++ [(ho, .inl (cJ, 1, .inr (.inl (vp_updL og 0 ((nI w).toInt64)))))])) [0, 1, 2, 3, 4, 5, 6, 7, 8, 9, 11, 12, 13, 14, 15, 10] rfl
      have hD := hD.sub (ws' := wX h0 h1 h2 h3 h4 h5 h6 h7 h8 h9 cI cJ d r lc bg a1 rm k pn fa e1 am dd rt b pd pt tp ++ (wM g0 g1 g2 g3 g4 cI cJ d r gb a1 rm lc k dr pn pa pi 0 ga e2 b rt ++ [(ho, .inl (cJ, 1, .inr (.inl (vp_updL og 0 ((nI w).toInt64)))))])) [0, 1, 2, 3, 4, 5, 6, 7, 8, 9, 11, 12, 13, 14, 15, 10] (by decide) rfl
      refine lv_istore (lv' := [(6, .int (nI w)), (5, .int (nI 0)), (0, .ref sb), (1, .ref h0), (2, .ref g0), (3, .ref ho), (4, .int (nI i))]) hx hb dL_law_531 hl (by decide) rfl (fun ls hl => ?_)
      refine lv_aload_n hx hb dL_law_533 rfl (lv_at hl 4 rfl) ?_
      have hPt := hP.sub (ws' := wM g0 g1 g2 g3 g4 cI cJ d r gb a1 rm lc k dr pn pa pi 0 ga e2 b rt) [10, 11, 12, 13, 14] rfl
      refine nk_rd (W.runV (As := []) (rest := []) ⟨hx, hb, hml, hown, hts⟩ (c_X1_thrown l D g0 g1 g2 g3 g4 cI cJ d r gb a1 rm lc k dr pn pa pi 0 ga e2 b rt) (cwV 0 hts gL_law_X1_thrown rfl rfl rfl (by decide +kernel) ⟨Nat.le_of_ble_eq_true rfl, Nat.le_of_ble_eq_true rfl⟩) ⟨nk_Pr.blind, va_recv hK hPt (ci := 1) (q0 := 0) rfl rfl, fun U hU hW => ⟨rfl, by rw [hU]; exact hPt, va_K.moved hW.alike hK⟩⟩ rfl rfl hl.1 rfl (lv_room (Nat.le_of_ble_eq_true rfl)) dL_law_534 ⟨by show cells + 1 + 0 ≤ 1051; omega, by show slots + 6 + 0 ≤ 9300; omega⟩) ?_
      refine W.eq (g2 := F0 m 537 ls [.int (nI 0)]) rfl ?_
      refine lv_iload hx hb dL_law_537 (lv_at hl 1 rfl) ?_
      refine nk_isame (tgt := 544) hx hb rfl dL_law_539 (by decide) ?_
      refine lv_iload hx hb dL_law_544 (lv_at hl 1 rfl) ?_
      refine nk_if_ne (tgt := 561) hx hb (by decide) dL_law_546 (by decide) (fun c9 => absurd c9 (by decide)) (fun _ => ?_)
      refine lv_aload_n hx hb dL_law_549 rfl (lv_at hl 5 rfl) ?_
      refine lv_iconst (v := nI 0) hx hb dL_law_550 (by decide +kernel) ?_
      refine va_lald hx hb hK hP 15 1 rfl rfl (vp_in_nI (by decide) (by decide)) dL_law_551 ?_
      refine nk_topl (y := (nI w).toInt64) nk_out ?_
      refine lv_iload hx hb dL_law_552 (lv_at hl 0 rfl) ?_
      refine lv_i2l hx hb dL_law_554 rfl ?_
      refine nk_lsame (tgt := 561) hx hb rfl dL_law_555 dL_law_556 (by decide) ?_
      refine lv_goto (tgt := 877) hx hb dL_law_561 (by decide) ?_
      refine W.widen (k := cells + 1) (n := slots + 6) (by omega) (by omega) ?_
      exact kk _ _ _ ⟨_, _, _, _, _, _, _, _, _, _, _, _, _, _, _, _, _, _, _, _, _, _, _, _, _, Inv_value hI (by omega), hP, hD⟩ hS (lv_sub hl [2, 3, 4, 5, 6] rfl)
  · have hP := hP.sub (ws' := wX h0 h1 h2 h3 h4 h5 h6 h7 h8 h9 cI cJ d r lc bg w rm k pn fa e1 am dd rt b pd pt tp ++ (wM g0 g1 g2 g3 g4 cI cJ d r gb w rm lc k dr pn pa pi th ga e2 b rt ++ [(ho, .inl (cJ, 1, .inr (.inl (og))))])) [6, 7, 8, 9, 10, 11, 12, 13, 14, 15, 0, 1, 2, 3, 4, 5] rfl
    have hD := hD.sub (ws' := wX h0 h1 h2 h3 h4 h5 h6 h7 h8 h9 cI cJ d r lc bg w rm k pn fa e1 am dd rt b pd pt tp ++ (wM g0 g1 g2 g3 g4 cI cJ d r gb w rm lc k dr pn pa pi th ga e2 b rt ++ [(ho, .inl (cJ, 1, .inr (.inl (og))))])) [6, 7, 8, 9, 10, 11, 12, 13, 14, 15, 0, 1, 2, 3, 4, 5] (by decide) rfl
    refine lv_istore (lv' := [(5, .int (nI 1)), (0, .ref sb), (1, .ref h0), (2, .ref g0), (3, .ref ho), (4, .int (nI i))]) hx hb dL_law_519 hl (by decide) rfl (fun ls hl => ?_)
    refine lv_aload_n hx hb dL_law_521 rfl (lv_at hl 3 rfl) ?_
    refine lv_aload_n hx hb dL_law_522 rfl (lv_at hl 1 rfl) ?_
    refine lv_iload hx hb dL_law_523 (lv_at hl 5 rfl) ?_
    refine lv_iconst (v := nI 1) hx hb dL_law_525 (by decide +kernel) ?_
    refine nk_iadd hx hb dL_law_526 ?_
    refine va_sld hx hb hX hbl hbA hS (vp_in_nI (by omega) (by omega)) dL_law_527 ?_
    refine nk_topi (y := q1) (by rw [nI_clamp (by omega)]; exact hq1) ?_
    have hPm := hP.sub (ws' := wM g0 g1 g2 g3 g4 cI cJ d r gb w rm lc k dr pn pa pi th ga e2 b rt) [10, 11, 12, 13, 14] rfl
    have hDm := hD.sub (ws' := wM g0 g1 g2 g3 g4 cI cJ d r gb w rm lc k dr pn pa pi th ga e2 b rt) [10, 11, 12, 13, 14] (by decide) rfl
    refine nk_icall (wr := wX h0 h1 h2 h3 h4 h5 h6 h7 h8 h9 cI cJ d r lc bg w rm k pn fa e1 am dd rt b pd pt tp ++ [(ho, .inl (cJ, 1, .inr (.inl (og))))]) (va_runV (As := [.int q1]) (rest := []) ⟨hx, hb, hml, hown, hts⟩ (c_X1_value l D g0 g1 g2 g3 g4 cI cJ d r gb w rm lc k dr pn pa pi th ga e2 b rt H.size q1 z1 a1 hzz1 hpp1 hgb2) (cwV 1 hts gL_law_X1_value rfl rfl rfl (by decide +kernel) ⟨Nat.le_of_ble_eq_true rfl, Nat.le_of_ble_eq_true rfl⟩) ⟨nk_Pw.blind, va_recv hK hPm (ci := 1) (q0 := 0) rfl rfl, fun U hU hW => ⟨rfl, by rw [hU], by rw [hU]; exact hPm, va_K.moved hW.alike hK, hDm.weaken (fun _ _ _ _ => trivial)⟩⟩ rfl rfl hl.1 rfl (lv_room (Nat.le_of_ble_eq_true rfl)) dL_law_528 ⟨by show cells + 1 + 0 ≤ 1051; omega, by show slots + 6 + 0 ≤ 9300; omega⟩) hP hD hS hA [10, 11, 12, 13, 14] [0, 1, 2, 3, 4, 5, 6, 7, 8, 9, 15] rfl rfl rfl (by decide) (fun r7 w1 H locs hw9 hP hD hS hk9 => ?_)
    try simp only [halE, hlsE, hmxE] at hw9
    rcases hw9 with ⟨y1, rfl⟩ | ⟨y1, y2, rfl⟩ | ⟨y1, y2, rfl, rfl⟩
    · have hP := hP.sub (ws' := wX h0 h1 h2 h3 h4 h5 h6 h7 h8 h9 cI cJ d r lc bg w rm k pn fa e1 am dd rt b pd pt tp ++ (wM g0 g1 g2 g3 g4 cI cJ d r gb w rm lc k dr pn pa pi 1 ga e2 b rt ++ [(ho, .inl (cJ, 1, .inr (.inl (og))))])) [0, 1, 2, 3, 4, 5, 6, 7, 8, 9, 11, 12, 13, 14, 15, 10] rfl
      have hD := hD.sub (ws' := wX h0 h1 h2 h3 h4 h5 h6 h7 h8 h9 cI cJ d r lc bg w rm k pn fa e1 am dd rt b pd pt tp ++ (wM g0 g1 g2 g3 g4 cI cJ d r gb w rm lc k dr pn pa pi 1 ga e2 b rt ++ [(ho, .inl (cJ, 1, .inr (.inl (og))))])) [0, 1, 2, 3, 4, 5, 6, 7, 8, 9, 11, 12, 13, 14, 15, 10] (by decide) rfl
      refine lv_istore (lv' := [(6, .int r7), (5, .int (nI 1)), (0, .ref sb), (1, .ref h0), (2, .ref g0), (3, .ref ho), (4, .int (nI i))]) hx hb dL_law_531 hl (by decide) rfl (fun ls hl => ?_)
      refine lv_aload_n hx hb dL_law_533 rfl (lv_at hl 4 rfl) ?_
      have hPt := hP.sub (ws' := wM g0 g1 g2 g3 g4 cI cJ d r gb w rm lc k dr pn pa pi 1 ga e2 b rt) [10, 11, 12, 13, 14] rfl
      refine nk_rd (W.runV (As := []) (rest := []) ⟨hx, hb, hml, hown, hts⟩ (c_X1_thrown l D g0 g1 g2 g3 g4 cI cJ d r gb w rm lc k dr pn pa pi 1 ga e2 b rt) (cwV 0 hts gL_law_X1_thrown rfl rfl rfl (by decide +kernel) ⟨Nat.le_of_ble_eq_true rfl, Nat.le_of_ble_eq_true rfl⟩) ⟨nk_Pr.blind, va_recv hK hPt (ci := 1) (q0 := 0) rfl rfl, fun U hU hW => ⟨rfl, by rw [hU]; exact hPt, va_K.moved hW.alike hK⟩⟩ rfl rfl hl.1 rfl (lv_room (Nat.le_of_ble_eq_true rfl)) dL_law_534 ⟨by show cells + 1 + 0 ≤ 1051; omega, by show slots + 6 + 0 ≤ 9300; omega⟩) ?_
      refine W.eq (g2 := F0 m 537 ls [.int (nI 1)]) rfl ?_
      refine lv_iload hx hb dL_law_537 (lv_at hl 1 rfl) ?_
      refine nk_isame (tgt := 544) hx hb rfl dL_law_539 (by decide) ?_
      refine lv_iload hx hb dL_law_544 (lv_at hl 1 rfl) ?_
      refine nk_if_ne (tgt := 561) hx hb (by decide) dL_law_546 (by decide) (fun _ => ?_) (fun c9 => absurd c9 (by decide))
      refine lv_goto (tgt := 877) hx hb dL_law_561 (by decide) ?_
      refine W.widen (k := cells + 1) (n := slots + 6) (by omega) (by omega) ?_
      exact kk _ _ _ ⟨_, _, _, _, _, _, _, _, _, _, _, _, _, _, _, _, _, _, _, _, _, _, _, _, _, hI, hP, hD⟩ hS (lv_sub hl [2, 3, 4, 5, 6] rfl)
    · exfalso; omega
    · exfalso; omega
  · have hP := hP.sub (ws' := wX h0 h1 h2 h3 h4 h5 h6 h7 h8 h9 cI cJ d r lc bg w rm k pn fa e1 am dd rt b pd pt tp ++ (wM g0 g1 g2 g3 g4 cI cJ d r gb w rm lc k dr pn pa pi th ga e2 b rt ++ [(ho, .inl (cJ, 1, .inr (.inl (og))))])) [6, 7, 8, 9, 10, 11, 12, 13, 14, 15, 0, 1, 2, 3, 4, 5] rfl
    have hD := hD.sub (ws' := wX h0 h1 h2 h3 h4 h5 h6 h7 h8 h9 cI cJ d r lc bg w rm k pn fa e1 am dd rt b pd pt tp ++ (wM g0 g1 g2 g3 g4 cI cJ d r gb w rm lc k dr pn pa pi th ga e2 b rt ++ [(ho, .inl (cJ, 1, .inr (.inl (og))))])) [6, 7, 8, 9, 10, 11, 12, 13, 14, 15, 0, 1, 2, 3, 4, 5] (by decide) rfl
    refine lv_istore (lv' := [(5, .int (nI 2)), (0, .ref sb), (1, .ref h0), (2, .ref g0), (3, .ref ho), (4, .int (nI i))]) hx hb dL_law_519 hl (by decide) rfl (fun ls hl => ?_)
    refine lv_aload_n hx hb dL_law_521 rfl (lv_at hl 3 rfl) ?_
    refine lv_aload_n hx hb dL_law_522 rfl (lv_at hl 1 rfl) ?_
    refine lv_iload hx hb dL_law_523 (lv_at hl 5 rfl) ?_
    refine lv_iconst (v := nI 1) hx hb dL_law_525 (by decide +kernel) ?_
    refine nk_iadd hx hb dL_law_526 ?_
    refine va_sld hx hb hX hbl hbA hS (vp_in_nI (by omega) (by omega)) dL_law_527 ?_
    refine nk_topi (y := q1) (by rw [nI_clamp (by omega)]; exact hq1) ?_
    have hPm := hP.sub (ws' := wM g0 g1 g2 g3 g4 cI cJ d r gb w rm lc k dr pn pa pi th ga e2 b rt) [10, 11, 12, 13, 14] rfl
    have hDm := hD.sub (ws' := wM g0 g1 g2 g3 g4 cI cJ d r gb w rm lc k dr pn pa pi th ga e2 b rt) [10, 11, 12, 13, 14] (by decide) rfl
    refine nk_icall (wr := wX h0 h1 h2 h3 h4 h5 h6 h7 h8 h9 cI cJ d r lc bg w rm k pn fa e1 am dd rt b pd pt tp ++ [(ho, .inl (cJ, 1, .inr (.inl (og))))]) (va_runV (As := [.int q1]) (rest := []) ⟨hx, hb, hml, hown, hts⟩ (c_X1_value l D g0 g1 g2 g3 g4 cI cJ d r gb w rm lc k dr pn pa pi th ga e2 b rt H.size q1 z1 a1 hzz1 hpp1 hgb2) (cwV 1 hts gL_law_X1_value rfl rfl rfl (by decide +kernel) ⟨Nat.le_of_ble_eq_true rfl, Nat.le_of_ble_eq_true rfl⟩) ⟨nk_Pw.blind, va_recv hK hPm (ci := 1) (q0 := 0) rfl rfl, fun U hU hW => ⟨rfl, by rw [hU], by rw [hU]; exact hPm, va_K.moved hW.alike hK, hDm.weaken (fun _ _ _ _ => trivial)⟩⟩ rfl rfl hl.1 rfl (lv_room (Nat.le_of_ble_eq_true rfl)) dL_law_528 ⟨by show cells + 1 + 0 ≤ 1051; omega, by show slots + 6 + 0 ≤ 9300; omega⟩) hP hD hS hA [10, 11, 12, 13, 14] [0, 1, 2, 3, 4, 5, 6, 7, 8, 9, 15] rfl rfl rfl (by decide) (fun r7 w1 H locs hw9 hP hD hS hk9 => ?_)
    try simp only [halE, hlsE, hmxE] at hw9
    rcases hw9 with ⟨y1, rfl⟩ | ⟨y1, y2, rfl⟩ | ⟨y1, y2, rfl, rfl⟩
    · exfalso; omega
    · have hP := hP.sub (ws' := wX h0 h1 h2 h3 h4 h5 h6 h7 h8 h9 cI cJ d r lc bg w rm k pn fa e1 am dd rt b pd pt tp ++ (wM g0 g1 g2 g3 g4 cI cJ d r gb w rm lc k dr pn pa pi 2 ga e2 b rt ++ [(ho, .inl (cJ, 1, .inr (.inl (og))))])) [0, 1, 2, 3, 4, 5, 6, 7, 8, 9, 11, 12, 13, 14, 15, 10] rfl
      have hD := hD.sub (ws' := wX h0 h1 h2 h3 h4 h5 h6 h7 h8 h9 cI cJ d r lc bg w rm k pn fa e1 am dd rt b pd pt tp ++ (wM g0 g1 g2 g3 g4 cI cJ d r gb w rm lc k dr pn pa pi 2 ga e2 b rt ++ [(ho, .inl (cJ, 1, .inr (.inl (og))))])) [0, 1, 2, 3, 4, 5, 6, 7, 8, 9, 11, 12, 13, 14, 15, 10] (by decide) rfl
      refine lv_istore (lv' := [(6, .int r7), (5, .int (nI 2)), (0, .ref sb), (1, .ref h0), (2, .ref g0), (3, .ref ho), (4, .int (nI i))]) hx hb dL_law_531 hl (by decide) rfl (fun ls hl => ?_)
      refine lv_aload_n hx hb dL_law_533 rfl (lv_at hl 4 rfl) ?_
      have hPt := hP.sub (ws' := wM g0 g1 g2 g3 g4 cI cJ d r gb w rm lc k dr pn pa pi 2 ga e2 b rt) [10, 11, 12, 13, 14] rfl
      refine nk_rd (W.runV (As := []) (rest := []) ⟨hx, hb, hml, hown, hts⟩ (c_X1_thrown l D g0 g1 g2 g3 g4 cI cJ d r gb w rm lc k dr pn pa pi 2 ga e2 b rt) (cwV 0 hts gL_law_X1_thrown rfl rfl rfl (by decide +kernel) ⟨Nat.le_of_ble_eq_true rfl, Nat.le_of_ble_eq_true rfl⟩) ⟨nk_Pr.blind, va_recv hK hPt (ci := 1) (q0 := 0) rfl rfl, fun U hU hW => ⟨rfl, by rw [hU]; exact hPt, va_K.moved hW.alike hK⟩⟩ rfl rfl hl.1 rfl (lv_room (Nat.le_of_ble_eq_true rfl)) dL_law_534 ⟨by show cells + 1 + 0 ≤ 1051; omega, by show slots + 6 + 0 ≤ 9300; omega⟩) ?_
      refine W.eq (g2 := F0 m 537 ls [.int (nI 2)]) rfl ?_
      refine lv_iload hx hb dL_law_537 (lv_at hl 1 rfl) ?_
      refine nk_isame (tgt := 544) hx hb rfl dL_law_539 (by decide) ?_
      refine lv_iload hx hb dL_law_544 (lv_at hl 1 rfl) ?_
      refine nk_if_ne (tgt := 561) hx hb (by decide) dL_law_546 (by decide) (fun _ => ?_) (fun c9 => absurd c9 (by decide))
      refine lv_goto (tgt := 877) hx hb dL_law_561 (by decide) ?_
      refine W.widen (k := cells + 1) (n := slots + 6) (by omega) (by omega) ?_
      exact kk _ _ _ ⟨_, _, _, _, _, _, _, _, _, _, _, _, _, _, _, _, _, _, _, _, _, _, _, _, _, hI, hP, hD⟩ hS (lv_sub hl [2, 3, 4, 5, 6] rfl)
    · exfalso; omega
set_option maxHeartbeats 8000000 in
set_option maxRecDepth 100000 in
theorem lc_move {p : Program} {l : Launch} {e : Env} {s : State} {m : MethodId} {below : List Frame} {meth : Method} {c : Code} {sb L : Nat} {xs : Nat → Int32} {D : va_G} {h0 h1 h2 h3 h4 h5 h6 h7 h8 h9 g0 g1 g2 g3 g4 ho : Nat} {cI cJ : ClassId} {H : Heap} {locs : List Loc} {cells slots : Nat} {Q : State → Prop} {ls : Array Slot} {i : Nat}
    (C0 : lw_At p s m meth c sb L xs) (hfl : l.stackTraces = false) (hK : va_K D vwCl (tX cI cJ) s) (hZ : nk_Z (fun q : Nat => s.heap.size ≤ q) s s.heap) (hc9 : cells + 1 ≤ 1051) (hs9 : slots + 6 ≤ 9300) (hi5 : i + 5 ≤ L) (hL : L ≤ 2560) (hSt : nk_St D (fun q : Nat => s.heap.size ≤ q) h0 h1 h2 h3 h4 h5 h6 h7 h8 h9 g0 g1 g2 g3 g4 ho cI cJ H) (hS : va_S (fun q : Nat => s.heap.size ≤ q) s.heap H locs) (hl : lv_has ls 8 [(0, .ref sb), (1, .ref h0), (2, .ref g0), (3, .ref ho), (4, .int (nI i))])
    (kk : ∀ (H1 : Heap) (locs1 : List Loc) (ls1 : Array Slot), nk_St D (fun q : Nat => s.heap.size ≤ q) h0 h1 h2 h3 h4 h5 h6 h7 h8 h9 g0 g1 g2 g3 g4 ho cI cJ H1 → va_S (fun q : Nat => s.heap.size ≤ q) s.heap H1 locs1 → lv_has ls1 8 [(0, .ref sb), (1, .ref h0), (2, .ref g0), (3, .ref ho), (4, .int (nI i))] → W p l e room_1 s m #[Value.ref sb] below meth c H1 locs1 (cells + 1) (slots + 6) Q (F0 m 877 ls1 [])) : W p l e room_1 s m #[Value.ref sb] below meth c H locs cells slots Q (F0 m 564 ls []) := by
  obtain ⟨hx, hb, hr, hml, hown, hts0, hX, hbl, hlocks, hgv⟩ := C0
  have hts : ∀ w ∈ wsL_law, w.before #[Value.ref sb] s = true := fun w h => hts0 w (wsL_law_in w h)
  have hown : s.vm.findClass RL = some m.cls := hown
  have hA : ∀ q : Nat, s.heap.size ≤ q → (fun q : Nat => s.heap.size ≤ q) q := fun _ h => h
  have hbA : ¬ (fun q : Nat => s.heap.size ≤ q) sb := Nat.not_le.mpr hbl
  obtain ⟨d, r, lc, bg, w, rm, k, pn, fa, e1, am, dd, rt, b, pd, pt, tp, gb, dr, pa, pi, ga, e2, th, og, hI, hP, hD⟩ := hSt
  obtain ⟨hlc, hd, hk, hpn, hbg, hw, hrm, he, hed, hfa, ham, hpd, hpd2, hpt, hbs, hb9, hrt, hdd, hroll, hh1, hh2, hh3, htp, hsa, hk0, he2, he2d, hga, hgb, hgb2, hpi, hdr, hpa1, he20, he21, hk0m, he28, hgbz, halE, hmxE, hlsE⟩ := Inv_f hI
  have hgbp : 0 < gb ↔ 0 < lc := by omega
  obtain ⟨q1, hq1⟩ : ∃ q, xs (i + 1) = q := ⟨_, rfl⟩
  obtain ⟨z1, hzz1⟩ : ∃ z, q1.toInt = z := ⟨_, rfl⟩
  obtain ⟨a1, hpp1, hza1⟩ := nk_arg hzz1
  refine lv_aload_n hx hb dL_law_564 rfl (lv_at hl 1 rfl) ?_
  refine lv_aload_n hx hb dL_law_565 rfl (lv_at hl 0 rfl) ?_
  refine lv_iload hx hb dL_law_566 (lv_at hl 4 rfl) ?_
  refine lv_iconst (v := nI 1) hx hb dL_law_568 (by decide +kernel) ?_
  refine nk_iadd hx hb dL_law_569 ?_
  refine va_sld hx hb hX hbl hbA hS (vp_in_nI (by omega) (by omega)) dL_law_570 ?_
  refine nk_topi (y := q1) (by rw [nI_clamp (by omega)]; exact hq1) ?_
  refine lv_aload_n hx hb dL_law_571 rfl (lv_at hl 3 rfl) ?_
  have hPc := hP.sub (ws' := wX h0 h1 h2 h3 h4 h5 h6 h7 h8 h9 cI cJ d r lc bg w rm k pn fa e1 am dd rt b pd pt tp ++ [(ho, .inl (cJ, 1, .inr (.inl (og))))]) [0, 1, 2, 3, 4, 5, 6, 7, 8, 9, 15] rfl
  have hDc := hD.sub (ws' := wX h0 h1 h2 h3 h4 h5 h6 h7 h8 h9 cI cJ d r lc bg w rm k pn fa e1 am dd rt b pd pt tp ++ [(ho, .inl (cJ, 1, .inr (.inl (og))))]) [0, 1, 2, 3, 4, 5, 6, 7, 8, 9, 15] (by decide) rfl
  have hFc := va_free (wc := wX h0 h1 h2 h3 h4 h5 h6 h7 h8 h9 cI cJ d r lc bg w rm k pn fa e1 am dd rt b pd pt tp ++ [(ho, .inl (cJ, 1, .inr (.inl (og))))]) hD hS hA [0, 1, 2, 3, 4, 5, 6, 7, 8, 9, 15] rfl
  have hZH := hZ.kept hS.2.1
  refine nk_icall (mc := 1) (ms := 6) (wr := wM g0 g1 g2 g3 g4 cI cJ d r gb w rm lc k dr pn pa pi th ga e2 b rt) (vx_runSW (As := [.ref h0, .int q1, .ref ho]) (rest := []) ⟨hx, hb, hml, hown, hts⟩ (c_L_move l hfl D h0 h1 h2 h3 h4 h5 h6 h7 h8 h9 cI cJ d r lc bg w rm k pn fa e1 am dd rt b pd pt tp ho og H.size q1 z1 a1 hzz1 hpp1 hlc he hfa hd hk hpn hbs hb9) (vx_cwSW 3 hts gL_law_L_move rfl rfl rfl (by decide +kernel) ⟨Nat.le_of_ble_eq_true rfl, Nat.le_of_ble_eq_true rfl⟩) ⟨nk_Px.blind, fun U hU hW => ⟨rfl, by rw [hU], by rw [hU]; exact hPc, va_K.moved hW.alike hK, hDc.weaken (fun _ _ _ _ => trivial), by rw [hU]; exact nk_Z.go hZH hW (fun q h => hFc q h)⟩⟩ rfl rfl hl.1 rfl (lv_room (Nat.le_of_ble_eq_true rfl)) dL_law_572 ⟨by show cells + 1 ≤ 1051; omega, by show slots + 6 ≤ 9300; omega⟩) hP hD hS hA [0, 1, 2, 3, 4, 5, 6, 7, 8, 9, 15] [10, 11, 12, 13, 14] rfl rfl rfl (by decide) (fun r9 w1 H locs hw9 hP hD hS hk9 => ?_)
  rcases hw9 with ⟨rfl, r8, w2, ⟨x1, x2, x3, rfl, (⟨x4, rfl⟩ | ⟨x4, rfl⟩)⟩, rfl⟩ | ⟨rfl, x1, rfl⟩ | ⟨rfl, x1, rfl⟩
  · have hP := hP.sub (ws' := wX h0 h1 h2 h3 h4 h5 h6 h7 h8 h9 cI cJ d r lc bg a1 (gL a1 (lstA fa e1 lc - 1 + d / 365) - ceilA (sm b k)) k pn fa e1 am dd rt b pd pt tp ++ (wM g0 g1 g2 g3 g4 cI cJ d r gb w rm lc k dr pn pa pi th ga e2 b rt ++ [(ho, .inl (cJ, 1, .inr (.inl (vp_updL og 0 (lN (ceilA (sm b k) - gL a1 (lstA fa e1 lc - 1 + d / 365)))))))])) [6, 7, 8, 9, 10, 11, 12, 13, 14, 15, 0, 1, 2, 3, 4, 5] rfl
    have hD := hD.sub (ws' := wX h0 h1 h2 h3 h4 h5 h6 h7 h8 h9 cI cJ d r lc bg a1 (gL a1 (lstA fa e1 lc - 1 + d / 365) - ceilA (sm b k)) k pn fa e1 am dd rt b pd pt tp ++ (wM g0 g1 g2 g3 g4 cI cJ d r gb w rm lc k dr pn pa pi th ga e2 b rt ++ [(ho, .inl (cJ, 1, .inr (.inl (vp_updL og 0 (lN (ceilA (sm b k) - gL a1 (lstA fa e1 lc - 1 + d / 365)))))))])) [6, 7, 8, 9, 10, 11, 12, 13, 14, 15, 0, 1, 2, 3, 4, 5] (by decide) rfl
    refine lv_istore (lv' := [(5, .int (nI 0)), (0, .ref sb), (1, .ref h0), (2, .ref g0), (3, .ref ho), (4, .int (nI i))]) hx hb dL_law_575 hl (by decide) rfl (fun ls hl => ?_)
    refine lv_aload_n hx hb dL_law_577 rfl (lv_at hl 3 rfl) ?_
    refine lv_aload_n hx hb dL_law_578 rfl (lv_at hl 1 rfl) ?_
    refine lv_iload hx hb dL_law_579 (lv_at hl 5 rfl) ?_
    refine lv_iconst (v := nI 1) hx hb dL_law_581 (by decide +kernel) ?_
    refine nk_iadd hx hb dL_law_582 ?_
    refine va_sld hx hb hX hbl hbA hS (vp_in_nI (by omega) (by omega)) dL_law_583 ?_
    refine nk_topi (y := q1) (by rw [nI_clamp (by omega)]; exact hq1) ?_
    have hPm := hP.sub (ws' := wM g0 g1 g2 g3 g4 cI cJ d r gb w rm lc k dr pn pa pi th ga e2 b rt) [10, 11, 12, 13, 14] rfl
    have hDm := hD.sub (ws' := wM g0 g1 g2 g3 g4 cI cJ d r gb w rm lc k dr pn pa pi th ga e2 b rt) [10, 11, 12, 13, 14] (by decide) rfl
    refine nk_lcall (wr := wX h0 h1 h2 h3 h4 h5 h6 h7 h8 h9 cI cJ d r lc bg a1 (gL a1 (lstA fa e1 lc - 1 + d / 365) - ceilA (sm b k)) k pn fa e1 am dd rt b pd pt tp ++ [(ho, .inl (cJ, 1, .inr (.inl (vp_updL og 0 (lN (ceilA (sm b k) - gL a1 (lstA fa e1 lc - 1 + d / 365)))))))]) (va_runV (As := [.int q1]) (rest := []) ⟨hx, hb, hml, hown, hts⟩ (c_X1_move l D g0 g1 g2 g3 g4 cI cJ d r gb w rm lc k dr pn pa pi th ga e2 b rt H.size q1 z1 a1 hzz1 hpp1 hgb2 hlc he2 hga hd hk hbs hb9 hpn) (cwV 1 hts gL_law_X1_move rfl rfl rfl (by decide +kernel) ⟨Nat.le_of_ble_eq_true rfl, Nat.le_of_ble_eq_true rfl⟩) ⟨nk_Pw.blind, va_recv hK hPm (ci := 1) (q0 := 0) rfl rfl, fun U hU hW => ⟨rfl, by rw [hU], by rw [hU]; exact hPm, va_K.moved hW.alike hK, hDm.weaken (fun _ _ _ _ => trivial)⟩⟩ rfl rfl hl.1 rfl (lv_room (Nat.le_of_ble_eq_true rfl)) dL_law_584 ⟨by show cells + 1 + 0 ≤ 1051; omega, by show slots + 6 + 0 ≤ 9300; omega⟩) hP hD hS hA [10, 11, 12, 13, 14] [0, 1, 2, 3, 4, 5, 6, 7, 8, 9, 15] rfl rfl rfl (by decide) (fun r7 w1 H locs hw9 hP hD hS hk9 => ?_)
    try simp only [halE, hlsE, hmxE] at hw9
    rcases hw9 with ⟨y1, rfl⟩ | ⟨y1, y2, rfl⟩ | ⟨y1, y2, rfl, (⟨y3, rfl⟩ | ⟨y3, rfl⟩)⟩
    · exfalso; omega
    · exfalso; omega
    · have hP := hP.sub (ws' := wX h0 h1 h2 h3 h4 h5 h6 h7 h8 h9 cI cJ d r lc bg a1 (gL a1 (lstA fa e1 lc - 1 + d / 365) - ceilA (sm b k)) k pn fa e1 am dd rt b pd pt tp ++ (wM g0 g1 g2 g3 g4 cI cJ d r gb a1 (gL a1 (lstA fa e1 lc - 1 + d / 365) - ceilA (sm b k)) lc k dr pn pa pi 0 ga e2 b rt ++ [(ho, .inl (cJ, 1, .inr (.inl (vp_updL og 0 (lN (ceilA (sm b k) - gL a1 (lstA fa e1 lc - 1 + d / 365)))))))])) [0, 1, 2, 3, 4, 5, 6, 7, 8, 9, 11, 12, 13, 14, 15, 10] rfl
      have hD := hD.sub (ws' := wX h0 h1 h2 h3 h4 h5 h6 h7 h8 h9 cI cJ d r lc bg a1 (gL a1 (lstA fa e1 lc - 1 + d / 365) - ceilA (sm b k)) k pn fa e1 am dd rt b pd pt tp ++ (wM g0 g1 g2 g3 g4 cI cJ d r gb a1 (gL a1 (lstA fa e1 lc - 1 + d / 365) - ceilA (sm b k)) lc k dr pn pa pi 0 ga e2 b rt ++ [(ho, .inl (cJ, 1, .inr (.inl (vp_updL og 0 (lN (ceilA (sm b k) - gL a1 (lstA fa e1 lc - 1 + d / 365)))))))])) [0, 1, 2, 3, 4, 5, 6, 7, 8, 9, 11, 12, 13, 14, 15, 10] (by decide) rfl
      refine lv_lstore (lv' := [(6, .long (lN (ceilA (sm b k) - gL a1 (lstA fa e1 lc - 1 + d / 365)))), (5, .int (nI 0)), (0, .ref sb), (1, .ref h0), (2, .ref g0), (3, .ref ho), (4, .int (nI i))]) hx hb dL_law_587 hl (by decide) rfl (fun ls hl => ?_)
      refine lv_aload_n hx hb dL_law_589 rfl (lv_at hl 4 rfl) ?_
      have hPt := hP.sub (ws' := wM g0 g1 g2 g3 g4 cI cJ d r gb a1 (gL a1 (lstA fa e1 lc - 1 + d / 365) - ceilA (sm b k)) lc k dr pn pa pi 0 ga e2 b rt) [10, 11, 12, 13, 14] rfl
      refine nk_rd (W.runV (As := []) (rest := []) ⟨hx, hb, hml, hown, hts⟩ (c_X1_thrown l D g0 g1 g2 g3 g4 cI cJ d r gb a1 (gL a1 (lstA fa e1 lc - 1 + d / 365) - ceilA (sm b k)) lc k dr pn pa pi 0 ga e2 b rt) (cwV 0 hts gL_law_X1_thrown rfl rfl rfl (by decide +kernel) ⟨Nat.le_of_ble_eq_true rfl, Nat.le_of_ble_eq_true rfl⟩) ⟨nk_Pr.blind, va_recv hK hPt (ci := 1) (q0 := 0) rfl rfl, fun U hU hW => ⟨rfl, by rw [hU]; exact hPt, va_K.moved hW.alike hK⟩⟩ rfl rfl hl.1 rfl (lv_room (Nat.le_of_ble_eq_true rfl)) dL_law_590 ⟨by show cells + 1 + 0 ≤ 1051; omega, by show slots + 6 + 0 ≤ 9300; omega⟩) ?_
      refine W.eq (g2 := F0 m 593 ls [.int (nI 0)]) rfl ?_
      refine lv_iload hx hb dL_law_593 (lv_at hl 1 rfl) ?_
      refine nk_isame (tgt := 600) hx hb rfl dL_law_595 (by decide) ?_
      refine lv_iload hx hb dL_law_600 (lv_at hl 1 rfl) ?_
      refine nk_if_ne (tgt := 616) hx hb (by decide) dL_law_602 (by decide) (fun c9 => absurd c9 (by decide)) (fun _ => ?_)
      refine lv_aload_n hx hb dL_law_605 rfl (lv_at hl 5 rfl) ?_
      refine lv_iconst (v := nI 0) hx hb dL_law_606 (by decide +kernel) ?_
      refine va_lald hx hb hK hP 15 1 rfl rfl (vp_in_nI (by decide) (by decide)) dL_law_607 ?_
      refine nk_topl (y := lN (ceilA (sm b k) - gL a1 (lstA fa e1 lc - 1 + d / 365))) nk_out ?_
      refine lv_lload hx hb dL_law_608 (lv_at hl 0 rfl) ?_
      refine nk_lsame (tgt := 616) hx hb rfl dL_law_610 dL_law_611 (by decide) ?_
      refine lv_goto (tgt := 877) hx hb dL_law_616 (by decide) ?_
      refine W.widen (k := cells + 1) (n := slots + 6) (by omega) (by omega) ?_
      have hg9 : gL a1 (lstA fa e1 lc - 1 + d / 365) ≤ 5500000 := gL_le (by omega)
      exact kk _ _ _ ⟨_, _, _, _, _, _, _, _, _, _, _, _, _, _, _, _, _, _, _, _, _, _, _, _, _, Inv_room hI (by omega) (by omega), hP, hD⟩ hS (lv_sub hl [2, 3, 4, 5, 6] rfl)
    · exfalso; omega
  · have hP := hP.sub (ws' := wX h0 h1 h2 h3 h4 h5 h6 h7 h8 h9 cI cJ d r lc bg a1 (gL a1 (lstA fa e1 lc - 1 + d / 365) - ceilA (sm (tkB b ((ceilA (sm b k) - gL a1 (lstA fa e1 lc - 1 + d / 365)) * 10000) k) k)) k (pn + 1) fa e1 am dd rt (tkB b ((ceilA (sm b k) - gL a1 (lstA fa e1 lc - 1 + d / 365)) * 10000) k) (va_up pd pn d) (va_up pt pn 0) (tkT tp b ((ceilA (sm b k) - gL a1 (lstA fa e1 lc - 1 + d / 365)) * 10000) pn k) ++ (wM g0 g1 g2 g3 g4 cI cJ d r gb w rm lc k dr pn pa pi th ga e2 b rt ++ [(ho, .inl (cJ, 1, .inr (.inl (vp_updL og 0 (lN (ceilA (sm b k) - gL a1 (lstA fa e1 lc - 1 + d / 365)))))))])) [6, 7, 8, 9, 10, 11, 12, 13, 14, 15, 0, 1, 2, 3, 4, 5] rfl
    have hD := hD.sub (ws' := wX h0 h1 h2 h3 h4 h5 h6 h7 h8 h9 cI cJ d r lc bg a1 (gL a1 (lstA fa e1 lc - 1 + d / 365) - ceilA (sm (tkB b ((ceilA (sm b k) - gL a1 (lstA fa e1 lc - 1 + d / 365)) * 10000) k) k)) k (pn + 1) fa e1 am dd rt (tkB b ((ceilA (sm b k) - gL a1 (lstA fa e1 lc - 1 + d / 365)) * 10000) k) (va_up pd pn d) (va_up pt pn 0) (tkT tp b ((ceilA (sm b k) - gL a1 (lstA fa e1 lc - 1 + d / 365)) * 10000) pn k) ++ (wM g0 g1 g2 g3 g4 cI cJ d r gb w rm lc k dr pn pa pi th ga e2 b rt ++ [(ho, .inl (cJ, 1, .inr (.inl (vp_updL og 0 (lN (ceilA (sm b k) - gL a1 (lstA fa e1 lc - 1 + d / 365)))))))])) [6, 7, 8, 9, 10, 11, 12, 13, 14, 15, 0, 1, 2, 3, 4, 5] (by decide) rfl
    refine lv_istore (lv' := [(5, .int (nI 0)), (0, .ref sb), (1, .ref h0), (2, .ref g0), (3, .ref ho), (4, .int (nI i))]) hx hb dL_law_575 hl (by decide) rfl (fun ls hl => ?_)
    refine lv_aload_n hx hb dL_law_577 rfl (lv_at hl 3 rfl) ?_
    refine lv_aload_n hx hb dL_law_578 rfl (lv_at hl 1 rfl) ?_
    refine lv_iload hx hb dL_law_579 (lv_at hl 5 rfl) ?_
    refine lv_iconst (v := nI 1) hx hb dL_law_581 (by decide +kernel) ?_
    refine nk_iadd hx hb dL_law_582 ?_
    refine va_sld hx hb hX hbl hbA hS (vp_in_nI (by omega) (by omega)) dL_law_583 ?_
    refine nk_topi (y := q1) (by rw [nI_clamp (by omega)]; exact hq1) ?_
    have hPm := hP.sub (ws' := wM g0 g1 g2 g3 g4 cI cJ d r gb w rm lc k dr pn pa pi th ga e2 b rt) [10, 11, 12, 13, 14] rfl
    have hDm := hD.sub (ws' := wM g0 g1 g2 g3 g4 cI cJ d r gb w rm lc k dr pn pa pi th ga e2 b rt) [10, 11, 12, 13, 14] (by decide) rfl
    refine nk_lcall (wr := wX h0 h1 h2 h3 h4 h5 h6 h7 h8 h9 cI cJ d r lc bg a1 (gL a1 (lstA fa e1 lc - 1 + d / 365) - ceilA (sm (tkB b ((ceilA (sm b k) - gL a1 (lstA fa e1 lc - 1 + d / 365)) * 10000) k) k)) k (pn + 1) fa e1 am dd rt (tkB b ((ceilA (sm b k) - gL a1 (lstA fa e1 lc - 1 + d / 365)) * 10000) k) (va_up pd pn d) (va_up pt pn 0) (tkT tp b ((ceilA (sm b k) - gL a1 (lstA fa e1 lc - 1 + d / 365)) * 10000) pn k) ++ [(ho, .inl (cJ, 1, .inr (.inl (vp_updL og 0 (lN (ceilA (sm b k) - gL a1 (lstA fa e1 lc - 1 + d / 365)))))))]) (va_runV (As := [.int q1]) (rest := []) ⟨hx, hb, hml, hown, hts⟩ (c_X1_move l D g0 g1 g2 g3 g4 cI cJ d r gb w rm lc k dr pn pa pi th ga e2 b rt H.size q1 z1 a1 hzz1 hpp1 hgb2 hlc he2 hga hd hk hbs hb9 hpn) (cwV 1 hts gL_law_X1_move rfl rfl rfl (by decide +kernel) ⟨Nat.le_of_ble_eq_true rfl, Nat.le_of_ble_eq_true rfl⟩) ⟨nk_Pw.blind, va_recv hK hPm (ci := 1) (q0 := 0) rfl rfl, fun U hU hW => ⟨rfl, by rw [hU], by rw [hU]; exact hPm, va_K.moved hW.alike hK, hDm.weaken (fun _ _ _ _ => trivial)⟩⟩ rfl rfl hl.1 rfl (lv_room (Nat.le_of_ble_eq_true rfl)) dL_law_584 ⟨by show cells + 1 + 0 ≤ 1051; omega, by show slots + 6 + 0 ≤ 9300; omega⟩) hP hD hS hA [10, 11, 12, 13, 14] [0, 1, 2, 3, 4, 5, 6, 7, 8, 9, 15] rfl rfl rfl (by decide) (fun r7 w1 H locs hw9 hP hD hS hk9 => ?_)
    try simp only [halE, hlsE, hmxE] at hw9
    rcases hw9 with ⟨y1, rfl⟩ | ⟨y1, y2, rfl⟩ | ⟨y1, y2, rfl, (⟨y3, rfl⟩ | ⟨y3, rfl⟩)⟩
    · exfalso; omega
    · exfalso; omega
    · exfalso; omega
    · have hP := hP.sub (ws' := wX h0 h1 h2 h3 h4 h5 h6 h7 h8 h9 cI cJ d r lc bg a1 (gL a1 (lstA fa e1 lc - 1 + d / 365) - ceilA (sm (tkB b ((ceilA (sm b k) - gL a1 (lstA fa e1 lc - 1 + d / 365)) * 10000) k) k)) k (pn + 1) fa e1 am dd rt (tkB b ((ceilA (sm b k) - gL a1 (lstA fa e1 lc - 1 + d / 365)) * 10000) k) (va_up pd pn d) (va_up pt pn 0) (tkT tp b ((ceilA (sm b k) - gL a1 (lstA fa e1 lc - 1 + d / 365)) * 10000) pn k) ++ (wM g0 g1 g2 g3 g4 cI cJ d r gb a1 0 lc k dr (pn + 1) pa pi 0 ga e2 (tkB b ((ceilA (sm b k) - gL a1 (lstA fa e1 lc - 1 + d / 365)) * 10000) k) rt ++ [(ho, .inl (cJ, 1, .inr (.inl (vp_updL og 0 (lN (ceilA (sm b k) - gL a1 (lstA fa e1 lc - 1 + d / 365)))))))])) [0, 1, 2, 3, 4, 5, 6, 7, 8, 9, 11, 12, 13, 14, 15, 10] rfl
      have hD := hD.sub (ws' := wX h0 h1 h2 h3 h4 h5 h6 h7 h8 h9 cI cJ d r lc bg a1 (gL a1 (lstA fa e1 lc - 1 + d / 365) - ceilA (sm (tkB b ((ceilA (sm b k) - gL a1 (lstA fa e1 lc - 1 + d / 365)) * 10000) k) k)) k (pn + 1) fa e1 am dd rt (tkB b ((ceilA (sm b k) - gL a1 (lstA fa e1 lc - 1 + d / 365)) * 10000) k) (va_up pd pn d) (va_up pt pn 0) (tkT tp b ((ceilA (sm b k) - gL a1 (lstA fa e1 lc - 1 + d / 365)) * 10000) pn k) ++ (wM g0 g1 g2 g3 g4 cI cJ d r gb a1 0 lc k dr (pn + 1) pa pi 0 ga e2 (tkB b ((ceilA (sm b k) - gL a1 (lstA fa e1 lc - 1 + d / 365)) * 10000) k) rt ++ [(ho, .inl (cJ, 1, .inr (.inl (vp_updL og 0 (lN (ceilA (sm b k) - gL a1 (lstA fa e1 lc - 1 + d / 365)))))))])) [0, 1, 2, 3, 4, 5, 6, 7, 8, 9, 11, 12, 13, 14, 15, 10] (by decide) rfl
      refine lv_lstore (lv' := [(6, .long (lN (ceilA (sm b k) - gL a1 (lstA fa e1 lc - 1 + d / 365)))), (5, .int (nI 0)), (0, .ref sb), (1, .ref h0), (2, .ref g0), (3, .ref ho), (4, .int (nI i))]) hx hb dL_law_587 hl (by decide) rfl (fun ls hl => ?_)
      refine lv_aload_n hx hb dL_law_589 rfl (lv_at hl 4 rfl) ?_
      have hPt := hP.sub (ws' := wM g0 g1 g2 g3 g4 cI cJ d r gb a1 0 lc k dr (pn + 1) pa pi 0 ga e2 (tkB b ((ceilA (sm b k) - gL a1 (lstA fa e1 lc - 1 + d / 365)) * 10000) k) rt) [10, 11, 12, 13, 14] rfl
      refine nk_rd (W.runV (As := []) (rest := []) ⟨hx, hb, hml, hown, hts⟩ (c_X1_thrown l D g0 g1 g2 g3 g4 cI cJ d r gb a1 0 lc k dr (pn + 1) pa pi 0 ga e2 (tkB b ((ceilA (sm b k) - gL a1 (lstA fa e1 lc - 1 + d / 365)) * 10000) k) rt) (cwV 0 hts gL_law_X1_thrown rfl rfl rfl (by decide +kernel) ⟨Nat.le_of_ble_eq_true rfl, Nat.le_of_ble_eq_true rfl⟩) ⟨nk_Pr.blind, va_recv hK hPt (ci := 1) (q0 := 0) rfl rfl, fun U hU hW => ⟨rfl, by rw [hU]; exact hPt, va_K.moved hW.alike hK⟩⟩ rfl rfl hl.1 rfl (lv_room (Nat.le_of_ble_eq_true rfl)) dL_law_590 ⟨by show cells + 1 + 0 ≤ 1051; omega, by show slots + 6 + 0 ≤ 9300; omega⟩) ?_
      refine W.eq (g2 := F0 m 593 ls [.int (nI 0)]) rfl ?_
      refine lv_iload hx hb dL_law_593 (lv_at hl 1 rfl) ?_
      refine nk_isame (tgt := 600) hx hb rfl dL_law_595 (by decide) ?_
      refine lv_iload hx hb dL_law_600 (lv_at hl 1 rfl) ?_
      refine nk_if_ne (tgt := 616) hx hb (by decide) dL_law_602 (by decide) (fun c9 => absurd c9 (by decide)) (fun _ => ?_)
      refine lv_aload_n hx hb dL_law_605 rfl (lv_at hl 5 rfl) ?_
      refine lv_iconst (v := nI 0) hx hb dL_law_606 (by decide +kernel) ?_
      refine va_lald hx hb hK hP 15 1 rfl rfl (vp_in_nI (by decide) (by decide)) dL_law_607 ?_
      refine nk_topl (y := lN (ceilA (sm b k) - gL a1 (lstA fa e1 lc - 1 + d / 365))) nk_out ?_
      refine lv_lload hx hb dL_law_608 (lv_at hl 0 rfl) ?_
      refine nk_lsame (tgt := 616) hx hb rfl dL_law_610 dL_law_611 (by decide) ?_
      refine lv_goto (tgt := 877) hx hb dL_law_616 (by decide) ?_
      refine W.widen (k := cells + 1) (n := slots + 6) (by omega) (by omega) ?_
      have hr0 := nk_room0 x4
      rw [hr0] at hP hD
      exact kk _ _ _ ⟨_, _, _, _, _, _, _, _, _, _, _, _, _, _, _, _, _, _, _, _, _, _, _, _, _, Inv_take hI x2.1 x2.2 x3 (Nat.zero_le _) (by omega) (Nat.zero_le _) (InvY_move hI.2.2.2.2.2.2.2.2), hP, hD⟩ hS (lv_sub hl [2, 3, 4, 5, 6] rfl)
  · have hP := hP.sub (ws' := wX h0 h1 h2 h3 h4 h5 h6 h7 h8 h9 cI cJ d r lc bg w rm k pn fa e1 am dd rt b pd pt tp ++ (wM g0 g1 g2 g3 g4 cI cJ d r gb w rm lc k dr pn pa pi th ga e2 b rt ++ [(ho, .inl (cJ, 1, .inr (.inl (og))))])) [6, 7, 8, 9, 10, 11, 12, 13, 14, 15, 0, 1, 2, 3, 4, 5] rfl
    have hD := hD.sub (ws' := wX h0 h1 h2 h3 h4 h5 h6 h7 h8 h9 cI cJ d r lc bg w rm k pn fa e1 am dd rt b pd pt tp ++ (wM g0 g1 g2 g3 g4 cI cJ d r gb w rm lc k dr pn pa pi th ga e2 b rt ++ [(ho, .inl (cJ, 1, .inr (.inl (og))))])) [6, 7, 8, 9, 10, 11, 12, 13, 14, 15, 0, 1, 2, 3, 4, 5] (by decide) rfl
    refine lv_istore (lv' := [(5, .int (nI 1)), (0, .ref sb), (1, .ref h0), (2, .ref g0), (3, .ref ho), (4, .int (nI i))]) hx hb dL_law_575 hl (by decide) rfl (fun ls hl => ?_)
    refine lv_aload_n hx hb dL_law_577 rfl (lv_at hl 3 rfl) ?_
    refine lv_aload_n hx hb dL_law_578 rfl (lv_at hl 1 rfl) ?_
    refine lv_iload hx hb dL_law_579 (lv_at hl 5 rfl) ?_
    refine lv_iconst (v := nI 1) hx hb dL_law_581 (by decide +kernel) ?_
    refine nk_iadd hx hb dL_law_582 ?_
    refine va_sld hx hb hX hbl hbA hS (vp_in_nI (by omega) (by omega)) dL_law_583 ?_
    refine nk_topi (y := q1) (by rw [nI_clamp (by omega)]; exact hq1) ?_
    have hPm := hP.sub (ws' := wM g0 g1 g2 g3 g4 cI cJ d r gb w rm lc k dr pn pa pi th ga e2 b rt) [10, 11, 12, 13, 14] rfl
    have hDm := hD.sub (ws' := wM g0 g1 g2 g3 g4 cI cJ d r gb w rm lc k dr pn pa pi th ga e2 b rt) [10, 11, 12, 13, 14] (by decide) rfl
    refine nk_lcall (wr := wX h0 h1 h2 h3 h4 h5 h6 h7 h8 h9 cI cJ d r lc bg w rm k pn fa e1 am dd rt b pd pt tp ++ [(ho, .inl (cJ, 1, .inr (.inl (og))))]) (va_runV (As := [.int q1]) (rest := []) ⟨hx, hb, hml, hown, hts⟩ (c_X1_move l D g0 g1 g2 g3 g4 cI cJ d r gb w rm lc k dr pn pa pi th ga e2 b rt H.size q1 z1 a1 hzz1 hpp1 hgb2 hlc he2 hga hd hk hbs hb9 hpn) (cwV 1 hts gL_law_X1_move rfl rfl rfl (by decide +kernel) ⟨Nat.le_of_ble_eq_true rfl, Nat.le_of_ble_eq_true rfl⟩) ⟨nk_Pw.blind, va_recv hK hPm (ci := 1) (q0 := 0) rfl rfl, fun U hU hW => ⟨rfl, by rw [hU], by rw [hU]; exact hPm, va_K.moved hW.alike hK, hDm.weaken (fun _ _ _ _ => trivial)⟩⟩ rfl rfl hl.1 rfl (lv_room (Nat.le_of_ble_eq_true rfl)) dL_law_584 ⟨by show cells + 1 + 0 ≤ 1051; omega, by show slots + 6 + 0 ≤ 9300; omega⟩) hP hD hS hA [10, 11, 12, 13, 14] [0, 1, 2, 3, 4, 5, 6, 7, 8, 9, 15] rfl rfl rfl (by decide) (fun r7 w1 H locs hw9 hP hD hS hk9 => ?_)
    try simp only [halE, hlsE, hmxE] at hw9
    rcases hw9 with ⟨y1, rfl⟩ | ⟨y1, y2, rfl⟩ | ⟨y1, y2, rfl, (⟨y3, rfl⟩ | ⟨y3, rfl⟩)⟩
    · have hP := hP.sub (ws' := wX h0 h1 h2 h3 h4 h5 h6 h7 h8 h9 cI cJ d r lc bg w rm k pn fa e1 am dd rt b pd pt tp ++ (wM g0 g1 g2 g3 g4 cI cJ d r gb w rm lc k dr pn pa pi 1 ga e2 b rt ++ [(ho, .inl (cJ, 1, .inr (.inl (og))))])) [0, 1, 2, 3, 4, 5, 6, 7, 8, 9, 11, 12, 13, 14, 15, 10] rfl
      have hD := hD.sub (ws' := wX h0 h1 h2 h3 h4 h5 h6 h7 h8 h9 cI cJ d r lc bg w rm k pn fa e1 am dd rt b pd pt tp ++ (wM g0 g1 g2 g3 g4 cI cJ d r gb w rm lc k dr pn pa pi 1 ga e2 b rt ++ [(ho, .inl (cJ, 1, .inr (.inl (og))))])) [0, 1, 2, 3, 4, 5, 6, 7, 8, 9, 11, 12, 13, 14, 15, 10] (by decide) rfl
      refine lv_lstore (lv' := [(6, .long r7), (5, .int (nI 1)), (0, .ref sb), (1, .ref h0), (2, .ref g0), (3, .ref ho), (4, .int (nI i))]) hx hb dL_law_587 hl (by decide) rfl (fun ls hl => ?_)
      refine lv_aload_n hx hb dL_law_589 rfl (lv_at hl 4 rfl) ?_
      have hPt := hP.sub (ws' := wM g0 g1 g2 g3 g4 cI cJ d r gb w rm lc k dr pn pa pi 1 ga e2 b rt) [10, 11, 12, 13, 14] rfl
      refine nk_rd (W.runV (As := []) (rest := []) ⟨hx, hb, hml, hown, hts⟩ (c_X1_thrown l D g0 g1 g2 g3 g4 cI cJ d r gb w rm lc k dr pn pa pi 1 ga e2 b rt) (cwV 0 hts gL_law_X1_thrown rfl rfl rfl (by decide +kernel) ⟨Nat.le_of_ble_eq_true rfl, Nat.le_of_ble_eq_true rfl⟩) ⟨nk_Pr.blind, va_recv hK hPt (ci := 1) (q0 := 0) rfl rfl, fun U hU hW => ⟨rfl, by rw [hU]; exact hPt, va_K.moved hW.alike hK⟩⟩ rfl rfl hl.1 rfl (lv_room (Nat.le_of_ble_eq_true rfl)) dL_law_590 ⟨by show cells + 1 + 0 ≤ 1051; omega, by show slots + 6 + 0 ≤ 9300; omega⟩) ?_
      refine W.eq (g2 := F0 m 593 ls [.int (nI 1)]) rfl ?_
      refine lv_iload hx hb dL_law_593 (lv_at hl 1 rfl) ?_
      refine nk_isame (tgt := 600) hx hb rfl dL_law_595 (by decide) ?_
      refine lv_iload hx hb dL_law_600 (lv_at hl 1 rfl) ?_
      refine nk_if_ne (tgt := 616) hx hb (by decide) dL_law_602 (by decide) (fun _ => ?_) (fun c9 => absurd c9 (by decide))
      refine lv_goto (tgt := 877) hx hb dL_law_616 (by decide) ?_
      refine W.widen (k := cells + 1) (n := slots + 6) (by omega) (by omega) ?_
      exact kk _ _ _ ⟨_, _, _, _, _, _, _, _, _, _, _, _, _, _, _, _, _, _, _, _, _, _, _, _, _, hI, hP, hD⟩ hS (lv_sub hl [2, 3, 4, 5, 6] rfl)
    · exfalso; omega
    · exfalso; omega
    · exfalso; omega
  · have hP := hP.sub (ws' := wX h0 h1 h2 h3 h4 h5 h6 h7 h8 h9 cI cJ d r lc bg w rm k pn fa e1 am dd rt b pd pt tp ++ (wM g0 g1 g2 g3 g4 cI cJ d r gb w rm lc k dr pn pa pi th ga e2 b rt ++ [(ho, .inl (cJ, 1, .inr (.inl (og))))])) [6, 7, 8, 9, 10, 11, 12, 13, 14, 15, 0, 1, 2, 3, 4, 5] rfl
    have hD := hD.sub (ws' := wX h0 h1 h2 h3 h4 h5 h6 h7 h8 h9 cI cJ d r lc bg w rm k pn fa e1 am dd rt b pd pt tp ++ (wM g0 g1 g2 g3 g4 cI cJ d r gb w rm lc k dr pn pa pi th ga e2 b rt ++ [(ho, .inl (cJ, 1, .inr (.inl (og))))])) [6, 7, 8, 9, 10, 11, 12, 13, 14, 15, 0, 1, 2, 3, 4, 5] (by decide) rfl
    refine lv_istore (lv' := [(5, .int (nI 2)), (0, .ref sb), (1, .ref h0), (2, .ref g0), (3, .ref ho), (4, .int (nI i))]) hx hb dL_law_575 hl (by decide) rfl (fun ls hl => ?_)
    refine lv_aload_n hx hb dL_law_577 rfl (lv_at hl 3 rfl) ?_
    refine lv_aload_n hx hb dL_law_578 rfl (lv_at hl 1 rfl) ?_
    refine lv_iload hx hb dL_law_579 (lv_at hl 5 rfl) ?_
    refine lv_iconst (v := nI 1) hx hb dL_law_581 (by decide +kernel) ?_
    refine nk_iadd hx hb dL_law_582 ?_
    refine va_sld hx hb hX hbl hbA hS (vp_in_nI (by omega) (by omega)) dL_law_583 ?_
    refine nk_topi (y := q1) (by rw [nI_clamp (by omega)]; exact hq1) ?_
    have hPm := hP.sub (ws' := wM g0 g1 g2 g3 g4 cI cJ d r gb w rm lc k dr pn pa pi th ga e2 b rt) [10, 11, 12, 13, 14] rfl
    have hDm := hD.sub (ws' := wM g0 g1 g2 g3 g4 cI cJ d r gb w rm lc k dr pn pa pi th ga e2 b rt) [10, 11, 12, 13, 14] (by decide) rfl
    refine nk_lcall (wr := wX h0 h1 h2 h3 h4 h5 h6 h7 h8 h9 cI cJ d r lc bg w rm k pn fa e1 am dd rt b pd pt tp ++ [(ho, .inl (cJ, 1, .inr (.inl (og))))]) (va_runV (As := [.int q1]) (rest := []) ⟨hx, hb, hml, hown, hts⟩ (c_X1_move l D g0 g1 g2 g3 g4 cI cJ d r gb w rm lc k dr pn pa pi th ga e2 b rt H.size q1 z1 a1 hzz1 hpp1 hgb2 hlc he2 hga hd hk hbs hb9 hpn) (cwV 1 hts gL_law_X1_move rfl rfl rfl (by decide +kernel) ⟨Nat.le_of_ble_eq_true rfl, Nat.le_of_ble_eq_true rfl⟩) ⟨nk_Pw.blind, va_recv hK hPm (ci := 1) (q0 := 0) rfl rfl, fun U hU hW => ⟨rfl, by rw [hU], by rw [hU]; exact hPm, va_K.moved hW.alike hK, hDm.weaken (fun _ _ _ _ => trivial)⟩⟩ rfl rfl hl.1 rfl (lv_room (Nat.le_of_ble_eq_true rfl)) dL_law_584 ⟨by show cells + 1 + 0 ≤ 1051; omega, by show slots + 6 + 0 ≤ 9300; omega⟩) hP hD hS hA [10, 11, 12, 13, 14] [0, 1, 2, 3, 4, 5, 6, 7, 8, 9, 15] rfl rfl rfl (by decide) (fun r7 w1 H locs hw9 hP hD hS hk9 => ?_)
    try simp only [halE, hlsE, hmxE] at hw9
    rcases hw9 with ⟨y1, rfl⟩ | ⟨y1, y2, rfl⟩ | ⟨y1, y2, rfl, (⟨y3, rfl⟩ | ⟨y3, rfl⟩)⟩
    · exfalso; omega
    · have hP := hP.sub (ws' := wX h0 h1 h2 h3 h4 h5 h6 h7 h8 h9 cI cJ d r lc bg w rm k pn fa e1 am dd rt b pd pt tp ++ (wM g0 g1 g2 g3 g4 cI cJ d r gb w rm lc k dr pn pa pi 2 ga e2 b rt ++ [(ho, .inl (cJ, 1, .inr (.inl (og))))])) [0, 1, 2, 3, 4, 5, 6, 7, 8, 9, 11, 12, 13, 14, 15, 10] rfl
      have hD := hD.sub (ws' := wX h0 h1 h2 h3 h4 h5 h6 h7 h8 h9 cI cJ d r lc bg w rm k pn fa e1 am dd rt b pd pt tp ++ (wM g0 g1 g2 g3 g4 cI cJ d r gb w rm lc k dr pn pa pi 2 ga e2 b rt ++ [(ho, .inl (cJ, 1, .inr (.inl (og))))])) [0, 1, 2, 3, 4, 5, 6, 7, 8, 9, 11, 12, 13, 14, 15, 10] (by decide) rfl
      refine lv_lstore (lv' := [(6, .long r7), (5, .int (nI 2)), (0, .ref sb), (1, .ref h0), (2, .ref g0), (3, .ref ho), (4, .int (nI i))]) hx hb dL_law_587 hl (by decide) rfl (fun ls hl => ?_)
      refine lv_aload_n hx hb dL_law_589 rfl (lv_at hl 4 rfl) ?_
      have hPt := hP.sub (ws' := wM g0 g1 g2 g3 g4 cI cJ d r gb w rm lc k dr pn pa pi 2 ga e2 b rt) [10, 11, 12, 13, 14] rfl
      refine nk_rd (W.runV (As := []) (rest := []) ⟨hx, hb, hml, hown, hts⟩ (c_X1_thrown l D g0 g1 g2 g3 g4 cI cJ d r gb w rm lc k dr pn pa pi 2 ga e2 b rt) (cwV 0 hts gL_law_X1_thrown rfl rfl rfl (by decide +kernel) ⟨Nat.le_of_ble_eq_true rfl, Nat.le_of_ble_eq_true rfl⟩) ⟨nk_Pr.blind, va_recv hK hPt (ci := 1) (q0 := 0) rfl rfl, fun U hU hW => ⟨rfl, by rw [hU]; exact hPt, va_K.moved hW.alike hK⟩⟩ rfl rfl hl.1 rfl (lv_room (Nat.le_of_ble_eq_true rfl)) dL_law_590 ⟨by show cells + 1 + 0 ≤ 1051; omega, by show slots + 6 + 0 ≤ 9300; omega⟩) ?_
      refine W.eq (g2 := F0 m 593 ls [.int (nI 2)]) rfl ?_
      refine lv_iload hx hb dL_law_593 (lv_at hl 1 rfl) ?_
      refine nk_isame (tgt := 600) hx hb rfl dL_law_595 (by decide) ?_
      refine lv_iload hx hb dL_law_600 (lv_at hl 1 rfl) ?_
      refine nk_if_ne (tgt := 616) hx hb (by decide) dL_law_602 (by decide) (fun _ => ?_) (fun c9 => absurd c9 (by decide))
      refine lv_goto (tgt := 877) hx hb dL_law_616 (by decide) ?_
      refine W.widen (k := cells + 1) (n := slots + 6) (by omega) (by omega) ?_
      exact kk _ _ _ ⟨_, _, _, _, _, _, _, _, _, _, _, _, _, _, _, _, _, _, _, _, _, _, _, _, _, hI, hP, hD⟩ hS (lv_sub hl [2, 3, 4, 5, 6] rfl)
    · exfalso; omega
    · exfalso; omega
set_option maxHeartbeats 8000000 in
set_option maxRecDepth 100000 in
theorem lc_balance {p : Program} {l : Launch} {e : Env} {s : State} {m : MethodId} {below : List Frame} {meth : Method} {c : Code} {sb L : Nat} {xs : Nat → Int32} {D : va_G} {h0 h1 h2 h3 h4 h5 h6 h7 h8 h9 g0 g1 g2 g3 g4 ho : Nat} {cI cJ : ClassId} {H : Heap} {locs : List Loc} {cells slots : Nat} {Q : State → Prop} {ls : Array Slot} {i : Nat}
    (C0 : lw_At p s m meth c sb L xs) (hfl : l.stackTraces = false) (hK : va_K D vwCl (tX cI cJ) s) (hZ : nk_Z (fun q : Nat => s.heap.size ≤ q) s s.heap) (hc9 : cells + 1 ≤ 1051) (hs9 : slots + 6 ≤ 9300) (hi5 : i + 5 ≤ L) (hL : L ≤ 2560) (hSt : nk_St D (fun q : Nat => s.heap.size ≤ q) h0 h1 h2 h3 h4 h5 h6 h7 h8 h9 g0 g1 g2 g3 g4 ho cI cJ H) (hS : va_S (fun q : Nat => s.heap.size ≤ q) s.heap H locs) (hl : lv_has ls 8 [(0, .ref sb), (1, .ref h0), (2, .ref g0), (3, .ref ho), (4, .int (nI i))])
    (kk : ∀ (H1 : Heap) (locs1 : List Loc) (ls1 : Array Slot), nk_St D (fun q : Nat => s.heap.size ≤ q) h0 h1 h2 h3 h4 h5 h6 h7 h8 h9 g0 g1 g2 g3 g4 ho cI cJ H1 → va_S (fun q : Nat => s.heap.size ≤ q) s.heap H1 locs1 → lv_has ls1 8 [(0, .ref sb), (1, .ref h0), (2, .ref g0), (3, .ref ho), (4, .int (nI i))] → W p l e room_1 s m #[Value.ref sb] below meth c H1 locs1 (cells + 1) (slots + 6) Q (F0 m 877 ls1 [])) : W p l e room_1 s m #[Value.ref sb] below meth c H locs cells slots Q (F0 m 697 ls []) := by
  obtain ⟨hx, hb, hr, hml, hown, hts0, hX, hbl, hlocks, hgv⟩ := C0
  have hts : ∀ w ∈ wsL_law, w.before #[Value.ref sb] s = true := fun w h => hts0 w (wsL_law_in w h)
  have hown : s.vm.findClass RL = some m.cls := hown
  have hA : ∀ q : Nat, s.heap.size ≤ q → (fun q : Nat => s.heap.size ≤ q) q := fun _ h => h
  have hbA : ¬ (fun q : Nat => s.heap.size ≤ q) sb := Nat.not_le.mpr hbl
  obtain ⟨d, r, lc, bg, w, rm, k, pn, fa, e1, am, dd, rt, b, pd, pt, tp, gb, dr, pa, pi, ga, e2, th, og, hI, hP, hD⟩ := hSt
  obtain ⟨hlc, hd, hk, hpn, hbg, hw, hrm, he, hed, hfa, ham, hpd, hpd2, hpt, hbs, hb9, hrt, hdd, hroll, hh1, hh2, hh3, htp, hsa, hk0, he2, he2d, hga, hgb, hgb2, hpi, hdr, hpa1, he20, he21, hk0m, he28, hgbz, halE, hmxE, hlsE⟩ := Inv_f hI
  have hgbp : 0 < gb ↔ 0 < lc := by omega
  obtain ⟨q1, hq1⟩ : ∃ q, xs (i + 1) = q := ⟨_, rfl⟩
  obtain ⟨z1, hzz1⟩ : ∃ z, q1.toInt = z := ⟨_, rfl⟩
  obtain ⟨a1, hpp1, hza1⟩ := nk_arg hzz1
  refine lv_aload_n hx hb dL_law_697 rfl (lv_at hl 1 rfl) ?_
  refine lv_aload_n hx hb dL_law_698 rfl (lv_at hl 0 rfl) ?_
  refine lv_iload hx hb dL_law_699 (lv_at hl 4 rfl) ?_
  refine lv_iconst (v := nI 1) hx hb dL_law_701 (by decide +kernel) ?_
  refine nk_iadd hx hb dL_law_702 ?_
  refine va_sld hx hb hX hbl hbA hS (vp_in_nI (by omega) (by omega)) dL_law_703 ?_
  refine nk_topi (y := q1) (by rw [nI_clamp (by omega)]; exact hq1) ?_
  refine lv_aload_n hx hb dL_law_704 rfl (lv_at hl 3 rfl) ?_
  have hPc := hP.sub (ws' := wX h0 h1 h2 h3 h4 h5 h6 h7 h8 h9 cI cJ d r lc bg w rm k pn fa e1 am dd rt b pd pt tp ++ [(ho, .inl (cJ, 1, .inr (.inl (og))))]) [0, 1, 2, 3, 4, 5, 6, 7, 8, 9, 15] rfl
  have hDc := hD.sub (ws' := wX h0 h1 h2 h3 h4 h5 h6 h7 h8 h9 cI cJ d r lc bg w rm k pn fa e1 am dd rt b pd pt tp ++ [(ho, .inl (cJ, 1, .inr (.inl (og))))]) [0, 1, 2, 3, 4, 5, 6, 7, 8, 9, 15] (by decide) rfl
  have hFc := va_free (wc := wX h0 h1 h2 h3 h4 h5 h6 h7 h8 h9 cI cJ d r lc bg w rm k pn fa e1 am dd rt b pd pt tp ++ [(ho, .inl (cJ, 1, .inr (.inl (og))))]) hD hS hA [0, 1, 2, 3, 4, 5, 6, 7, 8, 9, 15] rfl
  have hZH := hZ.kept hS.2.1
  refine nk_icall (mc := 1) (ms := 6) (wr := wM g0 g1 g2 g3 g4 cI cJ d r gb w rm lc k dr pn pa pi th ga e2 b rt) (vx_runSW (As := [.ref h0, .int q1, .ref ho]) (rest := []) ⟨hx, hb, hml, hown, hts⟩ (c_L_balance l hfl D h0 h1 h2 h3 h4 h5 h6 h7 h8 h9 cI cJ d r lc bg w rm k pn fa e1 am dd rt b pd pt tp ho og H.size q1 z1 a1 hzz1 hpp1 hk hb9) (vx_cwSW 3 hts gL_law_L_balance rfl rfl rfl (by decide +kernel) ⟨Nat.le_of_ble_eq_true rfl, Nat.le_of_ble_eq_true rfl⟩) ⟨nk_Px.blind, fun U hU hW => ⟨rfl, by rw [hU], by rw [hU]; exact hPc, va_K.moved hW.alike hK, hDc.weaken (fun _ _ _ _ => trivial), by rw [hU]; exact nk_Z.go hZH hW (fun q h => hFc q h)⟩⟩ rfl rfl hl.1 rfl (lv_room (Nat.le_of_ble_eq_true rfl)) dL_law_705 ⟨by show cells + 1 ≤ 1051; omega, by show slots + 6 ≤ 9300; omega⟩) hP hD hS hA [0, 1, 2, 3, 4, 5, 6, 7, 8, 9, 15] [10, 11, 12, 13, 14] rfl rfl rfl (by decide) (fun r9 w1 H locs hw9 hP hD hS hk9 => ?_)
  rcases hw9 with ⟨rfl, x1, rfl⟩ | ⟨rfl, x1, rfl⟩
  · have hP := hP.sub (ws' := wX h0 h1 h2 h3 h4 h5 h6 h7 h8 h9 cI cJ d r lc bg w rm k pn fa e1 am dd rt b pd pt tp ++ (wM g0 g1 g2 g3 g4 cI cJ d r gb w rm lc k dr pn pa pi th ga e2 b rt ++ [(ho, .inl (cJ, 1, .inr (.inl (vp_updL og 0 (lN (ceilA (b a1)))))))])) [6, 7, 8, 9, 10, 11, 12, 13, 14, 15, 0, 1, 2, 3, 4, 5] rfl
    have hD := hD.sub (ws' := wX h0 h1 h2 h3 h4 h5 h6 h7 h8 h9 cI cJ d r lc bg w rm k pn fa e1 am dd rt b pd pt tp ++ (wM g0 g1 g2 g3 g4 cI cJ d r gb w rm lc k dr pn pa pi th ga e2 b rt ++ [(ho, .inl (cJ, 1, .inr (.inl (vp_updL og 0 (lN (ceilA (b a1)))))))])) [6, 7, 8, 9, 10, 11, 12, 13, 14, 15, 0, 1, 2, 3, 4, 5] (by decide) rfl
    refine lv_istore (lv' := [(5, .int (nI 0)), (0, .ref sb), (1, .ref h0), (2, .ref g0), (3, .ref ho), (4, .int (nI i))]) hx hb dL_law_708 hl (by decide) rfl (fun ls hl => ?_)
    refine lv_aload_n hx hb dL_law_710 rfl (lv_at hl 3 rfl) ?_
    refine lv_aload_n hx hb dL_law_711 rfl (lv_at hl 1 rfl) ?_
    refine lv_iload hx hb dL_law_712 (lv_at hl 5 rfl) ?_
    refine lv_iconst (v := nI 1) hx hb dL_law_714 (by decide +kernel) ?_
    refine nk_iadd hx hb dL_law_715 ?_
    refine va_sld hx hb hX hbl hbA hS (vp_in_nI (by omega) (by omega)) dL_law_716 ?_
    refine nk_topi (y := q1) (by rw [nI_clamp (by omega)]; exact hq1) ?_
    have hPm := hP.sub (ws' := wM g0 g1 g2 g3 g4 cI cJ d r gb w rm lc k dr pn pa pi th ga e2 b rt) [10, 11, 12, 13, 14] rfl
    have hDm := hD.sub (ws' := wM g0 g1 g2 g3 g4 cI cJ d r gb w rm lc k dr pn pa pi th ga e2 b rt) [10, 11, 12, 13, 14] (by decide) rfl
    refine nk_lcall (wr := wX h0 h1 h2 h3 h4 h5 h6 h7 h8 h9 cI cJ d r lc bg w rm k pn fa e1 am dd rt b pd pt tp ++ [(ho, .inl (cJ, 1, .inr (.inl (vp_updL og 0 (lN (ceilA (b a1)))))))]) (va_runV (As := [.int q1]) (rest := []) ⟨hx, hb, hml, hown, hts⟩ (c_X1_balance l D g0 g1 g2 g3 g4 cI cJ d r gb w rm lc k dr pn pa pi th ga e2 b rt H.size q1 z1 a1 hzz1 hpp1 hk hb9) (cwV 1 hts gL_law_X1_balance rfl rfl rfl (by decide +kernel) ⟨Nat.le_of_ble_eq_true rfl, Nat.le_of_ble_eq_true rfl⟩) ⟨nk_Pw.blind, va_recv hK hPm (ci := 1) (q0 := 0) rfl rfl, fun U hU hW => ⟨rfl, by rw [hU], by rw [hU]; exact hPm, va_K.moved hW.alike hK, hDm.weaken (fun _ _ _ _ => trivial)⟩⟩ rfl rfl hl.1 rfl (lv_room (Nat.le_of_ble_eq_true rfl)) dL_law_717 ⟨by show cells + 1 + 0 ≤ 1051; omega, by show slots + 6 + 0 ≤ 9300; omega⟩) hP hD hS hA [10, 11, 12, 13, 14] [0, 1, 2, 3, 4, 5, 6, 7, 8, 9, 15] rfl rfl rfl (by decide) (fun r7 w1 H locs hw9 hP hD hS hk9 => ?_)
    try simp only [halE, hlsE, hmxE] at hw9
    rcases hw9 with ⟨y1, rfl⟩ | ⟨y1, rfl, rfl⟩
    · exfalso; omega
    · have hP := hP.sub (ws' := wX h0 h1 h2 h3 h4 h5 h6 h7 h8 h9 cI cJ d r lc bg w rm k pn fa e1 am dd rt b pd pt tp ++ (wM g0 g1 g2 g3 g4 cI cJ d r gb w rm lc k dr pn pa pi 0 ga e2 b rt ++ [(ho, .inl (cJ, 1, .inr (.inl (vp_updL og 0 (lN (ceilA (b a1)))))))])) [0, 1, 2, 3, 4, 5, 6, 7, 8, 9, 11, 12, 13, 14, 15, 10] rfl
      have hD := hD.sub (ws' := wX h0 h1 h2 h3 h4 h5 h6 h7 h8 h9 cI cJ d r lc bg w rm k pn fa e1 am dd rt b pd pt tp ++ (wM g0 g1 g2 g3 g4 cI cJ d r gb w rm lc k dr pn pa pi 0 ga e2 b rt ++ [(ho, .inl (cJ, 1, .inr (.inl (vp_updL og 0 (lN (ceilA (b a1)))))))])) [0, 1, 2, 3, 4, 5, 6, 7, 8, 9, 11, 12, 13, 14, 15, 10] (by decide) rfl
      refine lv_lstore (lv' := [(6, .long (lN (ceilA (b a1)))), (5, .int (nI 0)), (0, .ref sb), (1, .ref h0), (2, .ref g0), (3, .ref ho), (4, .int (nI i))]) hx hb dL_law_720 hl (by decide) rfl (fun ls hl => ?_)
      refine lv_aload_n hx hb dL_law_722 rfl (lv_at hl 4 rfl) ?_
      have hPt := hP.sub (ws' := wM g0 g1 g2 g3 g4 cI cJ d r gb w rm lc k dr pn pa pi 0 ga e2 b rt) [10, 11, 12, 13, 14] rfl
      refine nk_rd (W.runV (As := []) (rest := []) ⟨hx, hb, hml, hown, hts⟩ (c_X1_thrown l D g0 g1 g2 g3 g4 cI cJ d r gb w rm lc k dr pn pa pi 0 ga e2 b rt) (cwV 0 hts gL_law_X1_thrown rfl rfl rfl (by decide +kernel) ⟨Nat.le_of_ble_eq_true rfl, Nat.le_of_ble_eq_true rfl⟩) ⟨nk_Pr.blind, va_recv hK hPt (ci := 1) (q0 := 0) rfl rfl, fun U hU hW => ⟨rfl, by rw [hU]; exact hPt, va_K.moved hW.alike hK⟩⟩ rfl rfl hl.1 rfl (lv_room (Nat.le_of_ble_eq_true rfl)) dL_law_723 ⟨by show cells + 1 + 0 ≤ 1051; omega, by show slots + 6 + 0 ≤ 9300; omega⟩) ?_
      refine W.eq (g2 := F0 m 726 ls [.int (nI 0)]) rfl ?_
      refine lv_iload hx hb dL_law_726 (lv_at hl 1 rfl) ?_
      refine nk_isame (tgt := 733) hx hb rfl dL_law_728 (by decide) ?_
      refine lv_iload hx hb dL_law_733 (lv_at hl 1 rfl) ?_
      refine nk_if_ne (tgt := 749) hx hb (by decide) dL_law_735 (by decide) (fun c9 => absurd c9 (by decide)) (fun _ => ?_)
      refine lv_aload_n hx hb dL_law_738 rfl (lv_at hl 5 rfl) ?_
      refine lv_iconst (v := nI 0) hx hb dL_law_739 (by decide +kernel) ?_
      refine va_lald hx hb hK hP 15 1 rfl rfl (vp_in_nI (by decide) (by decide)) dL_law_740 ?_
      refine nk_topl (y := lN (ceilA (b a1))) nk_out ?_
      refine lv_lload hx hb dL_law_741 (lv_at hl 0 rfl) ?_
      refine nk_lsame (tgt := 749) hx hb rfl dL_law_743 dL_law_744 (by decide) ?_
      refine lv_goto (tgt := 877) hx hb dL_law_749 (by decide) ?_
      refine W.widen (k := cells + 1) (n := slots + 6) (by omega) (by omega) ?_
      exact kk _ _ _ ⟨_, _, _, _, _, _, _, _, _, _, _, _, _, _, _, _, _, _, _, _, _, _, _, _, _, hI, hP, hD⟩ hS (lv_sub hl [2, 3, 4, 5, 6] rfl)
  · have hP := hP.sub (ws' := wX h0 h1 h2 h3 h4 h5 h6 h7 h8 h9 cI cJ d r lc bg w rm k pn fa e1 am dd rt b pd pt tp ++ (wM g0 g1 g2 g3 g4 cI cJ d r gb w rm lc k dr pn pa pi th ga e2 b rt ++ [(ho, .inl (cJ, 1, .inr (.inl (og))))])) [6, 7, 8, 9, 10, 11, 12, 13, 14, 15, 0, 1, 2, 3, 4, 5] rfl
    have hD := hD.sub (ws' := wX h0 h1 h2 h3 h4 h5 h6 h7 h8 h9 cI cJ d r lc bg w rm k pn fa e1 am dd rt b pd pt tp ++ (wM g0 g1 g2 g3 g4 cI cJ d r gb w rm lc k dr pn pa pi th ga e2 b rt ++ [(ho, .inl (cJ, 1, .inr (.inl (og))))])) [6, 7, 8, 9, 10, 11, 12, 13, 14, 15, 0, 1, 2, 3, 4, 5] (by decide) rfl
    refine lv_istore (lv' := [(5, .int (nI 1)), (0, .ref sb), (1, .ref h0), (2, .ref g0), (3, .ref ho), (4, .int (nI i))]) hx hb dL_law_708 hl (by decide) rfl (fun ls hl => ?_)
    refine lv_aload_n hx hb dL_law_710 rfl (lv_at hl 3 rfl) ?_
    refine lv_aload_n hx hb dL_law_711 rfl (lv_at hl 1 rfl) ?_
    refine lv_iload hx hb dL_law_712 (lv_at hl 5 rfl) ?_
    refine lv_iconst (v := nI 1) hx hb dL_law_714 (by decide +kernel) ?_
    refine nk_iadd hx hb dL_law_715 ?_
    refine va_sld hx hb hX hbl hbA hS (vp_in_nI (by omega) (by omega)) dL_law_716 ?_
    refine nk_topi (y := q1) (by rw [nI_clamp (by omega)]; exact hq1) ?_
    have hPm := hP.sub (ws' := wM g0 g1 g2 g3 g4 cI cJ d r gb w rm lc k dr pn pa pi th ga e2 b rt) [10, 11, 12, 13, 14] rfl
    have hDm := hD.sub (ws' := wM g0 g1 g2 g3 g4 cI cJ d r gb w rm lc k dr pn pa pi th ga e2 b rt) [10, 11, 12, 13, 14] (by decide) rfl
    refine nk_lcall (wr := wX h0 h1 h2 h3 h4 h5 h6 h7 h8 h9 cI cJ d r lc bg w rm k pn fa e1 am dd rt b pd pt tp ++ [(ho, .inl (cJ, 1, .inr (.inl (og))))]) (va_runV (As := [.int q1]) (rest := []) ⟨hx, hb, hml, hown, hts⟩ (c_X1_balance l D g0 g1 g2 g3 g4 cI cJ d r gb w rm lc k dr pn pa pi th ga e2 b rt H.size q1 z1 a1 hzz1 hpp1 hk hb9) (cwV 1 hts gL_law_X1_balance rfl rfl rfl (by decide +kernel) ⟨Nat.le_of_ble_eq_true rfl, Nat.le_of_ble_eq_true rfl⟩) ⟨nk_Pw.blind, va_recv hK hPm (ci := 1) (q0 := 0) rfl rfl, fun U hU hW => ⟨rfl, by rw [hU], by rw [hU]; exact hPm, va_K.moved hW.alike hK, hDm.weaken (fun _ _ _ _ => trivial)⟩⟩ rfl rfl hl.1 rfl (lv_room (Nat.le_of_ble_eq_true rfl)) dL_law_717 ⟨by show cells + 1 + 0 ≤ 1051; omega, by show slots + 6 + 0 ≤ 9300; omega⟩) hP hD hS hA [10, 11, 12, 13, 14] [0, 1, 2, 3, 4, 5, 6, 7, 8, 9, 15] rfl rfl rfl (by decide) (fun r7 w1 H locs hw9 hP hD hS hk9 => ?_)
    try simp only [halE, hlsE, hmxE] at hw9
    rcases hw9 with ⟨y1, rfl⟩ | ⟨y1, rfl, rfl⟩
    · have hP := hP.sub (ws' := wX h0 h1 h2 h3 h4 h5 h6 h7 h8 h9 cI cJ d r lc bg w rm k pn fa e1 am dd rt b pd pt tp ++ (wM g0 g1 g2 g3 g4 cI cJ d r gb w rm lc k dr pn pa pi 1 ga e2 b rt ++ [(ho, .inl (cJ, 1, .inr (.inl (og))))])) [0, 1, 2, 3, 4, 5, 6, 7, 8, 9, 11, 12, 13, 14, 15, 10] rfl
      have hD := hD.sub (ws' := wX h0 h1 h2 h3 h4 h5 h6 h7 h8 h9 cI cJ d r lc bg w rm k pn fa e1 am dd rt b pd pt tp ++ (wM g0 g1 g2 g3 g4 cI cJ d r gb w rm lc k dr pn pa pi 1 ga e2 b rt ++ [(ho, .inl (cJ, 1, .inr (.inl (og))))])) [0, 1, 2, 3, 4, 5, 6, 7, 8, 9, 11, 12, 13, 14, 15, 10] (by decide) rfl
      refine lv_lstore (lv' := [(6, .long r7), (5, .int (nI 1)), (0, .ref sb), (1, .ref h0), (2, .ref g0), (3, .ref ho), (4, .int (nI i))]) hx hb dL_law_720 hl (by decide) rfl (fun ls hl => ?_)
      refine lv_aload_n hx hb dL_law_722 rfl (lv_at hl 4 rfl) ?_
      have hPt := hP.sub (ws' := wM g0 g1 g2 g3 g4 cI cJ d r gb w rm lc k dr pn pa pi 1 ga e2 b rt) [10, 11, 12, 13, 14] rfl
      refine nk_rd (W.runV (As := []) (rest := []) ⟨hx, hb, hml, hown, hts⟩ (c_X1_thrown l D g0 g1 g2 g3 g4 cI cJ d r gb w rm lc k dr pn pa pi 1 ga e2 b rt) (cwV 0 hts gL_law_X1_thrown rfl rfl rfl (by decide +kernel) ⟨Nat.le_of_ble_eq_true rfl, Nat.le_of_ble_eq_true rfl⟩) ⟨nk_Pr.blind, va_recv hK hPt (ci := 1) (q0 := 0) rfl rfl, fun U hU hW => ⟨rfl, by rw [hU]; exact hPt, va_K.moved hW.alike hK⟩⟩ rfl rfl hl.1 rfl (lv_room (Nat.le_of_ble_eq_true rfl)) dL_law_723 ⟨by show cells + 1 + 0 ≤ 1051; omega, by show slots + 6 + 0 ≤ 9300; omega⟩) ?_
      refine W.eq (g2 := F0 m 726 ls [.int (nI 1)]) rfl ?_
      refine lv_iload hx hb dL_law_726 (lv_at hl 1 rfl) ?_
      refine nk_isame (tgt := 733) hx hb rfl dL_law_728 (by decide) ?_
      refine lv_iload hx hb dL_law_733 (lv_at hl 1 rfl) ?_
      refine nk_if_ne (tgt := 749) hx hb (by decide) dL_law_735 (by decide) (fun _ => ?_) (fun c9 => absurd c9 (by decide))
      refine lv_goto (tgt := 877) hx hb dL_law_749 (by decide) ?_
      refine W.widen (k := cells + 1) (n := slots + 6) (by omega) (by omega) ?_
      exact kk _ _ _ ⟨_, _, _, _, _, _, _, _, _, _, _, _, _, _, _, _, _, _, _, _, _, _, _, _, _, hI, hP, hD⟩ hS (lv_sub hl [2, 3, 4, 5, 6] rfl)
    · exfalso; omega
set_option maxHeartbeats 8000000 in
set_option maxRecDepth 100000 in
theorem lc_charge {p : Program} {l : Launch} {e : Env} {s : State} {m : MethodId} {below : List Frame} {meth : Method} {c : Code} {sb L : Nat} {xs : Nat → Int32} {D : va_G} {h0 h1 h2 h3 h4 h5 h6 h7 h8 h9 g0 g1 g2 g3 g4 ho : Nat} {cI cJ : ClassId} {H : Heap} {locs : List Loc} {cells slots : Nat} {Q : State → Prop} {ls : Array Slot} {i : Nat}
    (C0 : lw_At p s m meth c sb L xs) (hfl : l.stackTraces = false) (hK : va_K D vwCl (tX cI cJ) s) (hZ : nk_Z (fun q : Nat => s.heap.size ≤ q) s s.heap) (hc9 : cells + 1 ≤ 1051) (hs9 : slots + 6 ≤ 9300) (hi5 : i + 5 ≤ L) (hL : L ≤ 2560) (hSt : nk_St D (fun q : Nat => s.heap.size ≤ q) h0 h1 h2 h3 h4 h5 h6 h7 h8 h9 g0 g1 g2 g3 g4 ho cI cJ H) (hS : va_S (fun q : Nat => s.heap.size ≤ q) s.heap H locs) (hl : lv_has ls 8 [(0, .ref sb), (1, .ref h0), (2, .ref g0), (3, .ref ho), (4, .int (nI i))])
    (kk : ∀ (H1 : Heap) (locs1 : List Loc) (ls1 : Array Slot), nk_St D (fun q : Nat => s.heap.size ≤ q) h0 h1 h2 h3 h4 h5 h6 h7 h8 h9 g0 g1 g2 g3 g4 ho cI cJ H1 → va_S (fun q : Nat => s.heap.size ≤ q) s.heap H1 locs1 → lv_has ls1 8 [(0, .ref sb), (1, .ref h0), (2, .ref g0), (3, .ref ho), (4, .int (nI i))] → W p l e room_1 s m #[Value.ref sb] below meth c H1 locs1 (cells + 1) (slots + 6) Q (F0 m 877 ls1 [])) : W p l e room_1 s m #[Value.ref sb] below meth c H locs cells slots Q (F0 m 821 ls []) := by
  obtain ⟨hx, hb, hr, hml, hown, hts0, hX, hbl, hlocks, hgv⟩ := C0
  have hts : ∀ w ∈ wsL_law, w.before #[Value.ref sb] s = true := fun w h => hts0 w (wsL_law_in w h)
  have hown : s.vm.findClass RL = some m.cls := hown
  have hA : ∀ q : Nat, s.heap.size ≤ q → (fun q : Nat => s.heap.size ≤ q) q := fun _ h => h
  have hbA : ¬ (fun q : Nat => s.heap.size ≤ q) sb := Nat.not_le.mpr hbl
  obtain ⟨d, r, lc, bg, w, rm, k, pn, fa, e1, am, dd, rt, b, pd, pt, tp, gb, dr, pa, pi, ga, e2, th, og, hI, hP, hD⟩ := hSt
  obtain ⟨hlc, hd, hk, hpn, hbg, hw, hrm, he, hed, hfa, ham, hpd, hpd2, hpt, hbs, hb9, hrt, hdd, hroll, hh1, hh2, hh3, htp, hsa, hk0, he2, he2d, hga, hgb, hgb2, hpi, hdr, hpa1, he20, he21, hk0m, he28, hgbz, halE, hmxE, hlsE⟩ := Inv_f hI
  have hgbp : 0 < gb ↔ 0 < lc := by omega
  obtain ⟨q1, hq1⟩ : ∃ q, xs (i + 1) = q := ⟨_, rfl⟩
  obtain ⟨z1, hzz1⟩ : ∃ z, q1.toInt = z := ⟨_, rfl⟩
  obtain ⟨a1, hpp1, hza1⟩ := nk_arg hzz1
  refine lv_aload_n hx hb dL_law_821 rfl (lv_at hl 1 rfl) ?_
  refine lv_aload_n hx hb dL_law_822 rfl (lv_at hl 0 rfl) ?_
  refine lv_iload hx hb dL_law_823 (lv_at hl 4 rfl) ?_
  refine lv_iconst (v := nI 1) hx hb dL_law_825 (by decide +kernel) ?_
  refine nk_iadd hx hb dL_law_826 ?_
  refine va_sld hx hb hX hbl hbA hS (vp_in_nI (by omega) (by omega)) dL_law_827 ?_
  refine nk_topi (y := q1) (by rw [nI_clamp (by omega)]; exact hq1) ?_
  refine lv_aload_n hx hb dL_law_828 rfl (lv_at hl 3 rfl) ?_
  have hPc := hP.sub (ws' := wX h0 h1 h2 h3 h4 h5 h6 h7 h8 h9 cI cJ d r lc bg w rm k pn fa e1 am dd rt b pd pt tp ++ [(ho, .inl (cJ, 1, .inr (.inl (og))))]) [0, 1, 2, 3, 4, 5, 6, 7, 8, 9, 15] rfl
  have hDc := hD.sub (ws' := wX h0 h1 h2 h3 h4 h5 h6 h7 h8 h9 cI cJ d r lc bg w rm k pn fa e1 am dd rt b pd pt tp ++ [(ho, .inl (cJ, 1, .inr (.inl (og))))]) [0, 1, 2, 3, 4, 5, 6, 7, 8, 9, 15] (by decide) rfl
  have hFc := va_free (wc := wX h0 h1 h2 h3 h4 h5 h6 h7 h8 h9 cI cJ d r lc bg w rm k pn fa e1 am dd rt b pd pt tp ++ [(ho, .inl (cJ, 1, .inr (.inl (og))))]) hD hS hA [0, 1, 2, 3, 4, 5, 6, 7, 8, 9, 15] rfl
  have hZH := hZ.kept hS.2.1
  refine nk_icall (mc := 1) (ms := 6) (wr := wM g0 g1 g2 g3 g4 cI cJ d r gb w rm lc k dr pn pa pi th ga e2 b rt) (vx_runSW (As := [.ref h0, .int q1, .ref ho]) (rest := []) ⟨hx, hb, hml, hown, hts⟩ (c_L_charge l hfl D h0 h1 h2 h3 h4 h5 h6 h7 h8 h9 cI cJ d r lc bg w rm k pn fa e1 am dd rt b pd pt tp ho og H.size q1 z1 a1 hzz1 hpp1 hlc he hed hk ham hpn hbg hd hpd hpt) (vx_cwSW 3 hts gL_law_L_charge rfl rfl rfl (by decide +kernel) ⟨Nat.le_of_ble_eq_true rfl, Nat.le_of_ble_eq_true rfl⟩) ⟨nk_Px.blind, fun U hU hW => ⟨rfl, by rw [hU], by rw [hU]; exact hPc, va_K.moved hW.alike hK, hDc.weaken (fun _ _ _ _ => trivial), by rw [hU]; exact nk_Z.go hZH hW (fun q h => hFc q h)⟩⟩ rfl rfl hl.1 rfl (lv_room (Nat.le_of_ble_eq_true rfl)) dL_law_829 ⟨by show cells + 1 ≤ 1051; omega, by show slots + 6 ≤ 9300; omega⟩) hP hD hS hA [0, 1, 2, 3, 4, 5, 6, 7, 8, 9, 15] [10, 11, 12, 13, 14] rfl rfl rfl (by decide) (fun r9 w1 H locs hw9 hP hD hS hk9 => ?_)
  rcases hw9 with ⟨rfl, ⟨x1, x2⟩, rfl⟩ | ⟨rfl, x1, rfl⟩ | ⟨rfl, x1, rfl⟩
  · have hP := hP.sub (ws' := wX h0 h1 h2 h3 h4 h5 h6 h7 h8 h9 cI cJ d r lc bg w rm k pn fa e1 am dd rt b pd pt tp ++ (wM g0 g1 g2 g3 g4 cI cJ d r gb w rm lc k dr pn pa pi th ga e2 b rt ++ [(ho, .inl (cJ, 1, .inr (.inl (vp_updL og 0 ((nI (chg (mxE e1 lc) d ((d - bg) / 365) (sm am k) (pY bg pd pt ((d - bg) / 365) pn) a1)).toInt64)))))])) [6, 7, 8, 9, 10, 11, 12, 13, 14, 15, 0, 1, 2, 3, 4, 5] rfl
    have hD := hD.sub (ws' := wX h0 h1 h2 h3 h4 h5 h6 h7 h8 h9 cI cJ d r lc bg w rm k pn fa e1 am dd rt b pd pt tp ++ (wM g0 g1 g2 g3 g4 cI cJ d r gb w rm lc k dr pn pa pi th ga e2 b rt ++ [(ho, .inl (cJ, 1, .inr (.inl (vp_updL og 0 ((nI (chg (mxE e1 lc) d ((d - bg) / 365) (sm am k) (pY bg pd pt ((d - bg) / 365) pn) a1)).toInt64)))))])) [6, 7, 8, 9, 10, 11, 12, 13, 14, 15, 0, 1, 2, 3, 4, 5] (by decide) rfl
    refine lv_istore (lv' := [(5, .int (nI 0)), (0, .ref sb), (1, .ref h0), (2, .ref g0), (3, .ref ho), (4, .int (nI i))]) hx hb dL_law_832 hl (by decide) rfl (fun ls hl => ?_)
    refine lv_aload_n hx hb dL_law_834 rfl (lv_at hl 3 rfl) ?_
    refine lv_aload_n hx hb dL_law_835 rfl (lv_at hl 1 rfl) ?_
    refine lv_iload hx hb dL_law_836 (lv_at hl 5 rfl) ?_
    refine lv_iconst (v := nI 1) hx hb dL_law_838 (by decide +kernel) ?_
    refine nk_iadd hx hb dL_law_839 ?_
    refine va_sld hx hb hX hbl hbA hS (vp_in_nI (by omega) (by omega)) dL_law_840 ?_
    refine nk_topi (y := q1) (by rw [nI_clamp (by omega)]; exact hq1) ?_
    have hPm := hP.sub (ws' := wM g0 g1 g2 g3 g4 cI cJ d r gb w rm lc k dr pn pa pi th ga e2 b rt) [10, 11, 12, 13, 14] rfl
    have hDm := hD.sub (ws' := wM g0 g1 g2 g3 g4 cI cJ d r gb w rm lc k dr pn pa pi th ga e2 b rt) [10, 11, 12, 13, 14] (by decide) rfl
    refine nk_icall (wr := wX h0 h1 h2 h3 h4 h5 h6 h7 h8 h9 cI cJ d r lc bg w rm k pn fa e1 am dd rt b pd pt tp ++ [(ho, .inl (cJ, 1, .inr (.inl (vp_updL og 0 ((nI (chg (mxE e1 lc) d ((d - bg) / 365) (sm am k) (pY bg pd pt ((d - bg) / 365) pn) a1)).toInt64)))))]) (va_runV (As := [.int q1]) (rest := []) ⟨hx, hb, hml, hown, hts⟩ (c_X1_charge l D g0 g1 g2 g3 g4 cI cJ d r gb w rm lc k dr pn pa pi th ga e2 b rt H.size q1 z1 a1 hzz1 hpp1 hgb2 hlc he2 he2d hgb hd hpi hdr hpa1) (cwV 1 hts gL_law_X1_charge rfl rfl rfl (by decide +kernel) ⟨Nat.le_of_ble_eq_true rfl, Nat.le_of_ble_eq_true rfl⟩) ⟨nk_Pw.blind, va_recv hK hPm (ci := 1) (q0 := 0) rfl rfl, fun U hU hW => ⟨rfl, by rw [hU], by rw [hU]; exact hPm, va_K.moved hW.alike hK, hDm.weaken (fun _ _ _ _ => trivial)⟩⟩ rfl rfl hl.1 rfl (lv_room (Nat.le_of_ble_eq_true rfl)) dL_law_841 ⟨by show cells + 1 + 0 ≤ 1051; omega, by show slots + 6 + 0 ≤ 9300; omega⟩) hP hD hS hA [10, 11, 12, 13, 14] [0, 1, 2, 3, 4, 5, 6, 7, 8, 9, 15] rfl rfl rfl (by decide) (fun r7 w1 H locs hw9 hP hD hS hk9 => ?_)
    try simp only [halE, hlsE, hmxE] at hw9
    rcases hw9 with ⟨y1, rfl⟩ | ⟨y1, y2, rfl⟩ | ⟨y1, y2, rfl, rfl⟩
    · exfalso; omega
    · exfalso; omega
    · have hP := hP.sub (ws' := wX h0 h1 h2 h3 h4 h5 h6 h7 h8 h9 cI cJ d r lc bg w rm k pn fa e1 am dd rt b pd pt tp ++ (wM g0 g1 g2 g3 g4 cI cJ d r gb w rm lc k dr pn pa pi 0 ga e2 b rt ++ [(ho, .inl (cJ, 1, .inr (.inl (vp_updL og 0 ((nI (chg (mxE e1 lc) d ((d - bg) / 365) (sm am k) (pY bg pd pt ((d - bg) / 365) pn) a1)).toInt64)))))])) [0, 1, 2, 3, 4, 5, 6, 7, 8, 9, 11, 12, 13, 14, 15, 10] rfl
      have hD := hD.sub (ws' := wX h0 h1 h2 h3 h4 h5 h6 h7 h8 h9 cI cJ d r lc bg w rm k pn fa e1 am dd rt b pd pt tp ++ (wM g0 g1 g2 g3 g4 cI cJ d r gb w rm lc k dr pn pa pi 0 ga e2 b rt ++ [(ho, .inl (cJ, 1, .inr (.inl (vp_updL og 0 ((nI (chg (mxE e1 lc) d ((d - bg) / 365) (sm am k) (pY bg pd pt ((d - bg) / 365) pn) a1)).toInt64)))))])) [0, 1, 2, 3, 4, 5, 6, 7, 8, 9, 11, 12, 13, 14, 15, 10] (by decide) rfl
      refine lv_istore (lv' := [(6, .int (nI (chg (mxE e1 lc) d ((d + 1 - gb) / 365) dr (if pi = (d + 1 - gb) / 365 then pa else 0) a1))), (5, .int (nI 0)), (0, .ref sb), (1, .ref h0), (2, .ref g0), (3, .ref ho), (4, .int (nI i))]) hx hb dL_law_844 hl (by decide) rfl (fun ls hl => ?_)
      refine lv_aload_n hx hb dL_law_846 rfl (lv_at hl 4 rfl) ?_
      have hPt := hP.sub (ws' := wM g0 g1 g2 g3 g4 cI cJ d r gb w rm lc k dr pn pa pi 0 ga e2 b rt) [10, 11, 12, 13, 14] rfl
      refine nk_rd (W.runV (As := []) (rest := []) ⟨hx, hb, hml, hown, hts⟩ (c_X1_thrown l D g0 g1 g2 g3 g4 cI cJ d r gb w rm lc k dr pn pa pi 0 ga e2 b rt) (cwV 0 hts gL_law_X1_thrown rfl rfl rfl (by decide +kernel) ⟨Nat.le_of_ble_eq_true rfl, Nat.le_of_ble_eq_true rfl⟩) ⟨nk_Pr.blind, va_recv hK hPt (ci := 1) (q0 := 0) rfl rfl, fun U hU hW => ⟨rfl, by rw [hU]; exact hPt, va_K.moved hW.alike hK⟩⟩ rfl rfl hl.1 rfl (lv_room (Nat.le_of_ble_eq_true rfl)) dL_law_847 ⟨by show cells + 1 + 0 ≤ 1051; omega, by show slots + 6 + 0 ≤ 9300; omega⟩) ?_
      refine W.eq (g2 := F0 m 850 ls [.int (nI 0)]) rfl ?_
      refine lv_iload hx hb dL_law_850 (lv_at hl 1 rfl) ?_
      refine nk_isame (tgt := 857) hx hb rfl dL_law_852 (by decide) ?_
      refine lv_iload hx hb dL_law_857 (lv_at hl 1 rfl) ?_
      refine nk_if_ne (tgt := 874) hx hb (by decide) dL_law_859 (by decide) (fun c9 => absurd c9 (by decide)) (fun _ => ?_)
      refine lv_aload_n hx hb dL_law_862 rfl (lv_at hl 5 rfl) ?_
      refine lv_iconst (v := nI 0) hx hb dL_law_863 (by decide +kernel) ?_
      refine va_lald hx hb hK hP 15 1 rfl rfl (vp_in_nI (by decide) (by decide)) dL_law_864 ?_
      refine nk_topl (y := (nI (chg (mxE e1 lc) d ((d - bg) / 365) (sm am k) (pY bg pd pt ((d - bg) / 365) pn) a1)).toInt64) nk_out ?_
      refine lv_iload hx hb dL_law_865 (lv_at hl 0 rfl) ?_
      refine lv_i2l hx hb dL_law_867 rfl ?_
      refine nk_lsame (tgt := 874) hx hb (by rw [show chg (mxE e1 lc) d ((d + 1 - gb) / 365) dr (if pi = (d + 1 - gb) / 365 then pa else 0) a1 = chg (mxE e1 lc) d ((d - bg) / 365) (sm am k) (pY bg pd pt ((d - bg) / 365) pn) a1 from by have := Inv_charge hI x2.1 a1; rw [hmxE] at this; exact this]) dL_law_868 dL_law_869 (by decide) ?_
      refine lv_goto (tgt := 877) hx hb dL_law_874 (by decide) ?_
      refine W.widen (k := cells + 1) (n := slots + 6) (by omega) (by omega) ?_
      exact kk _ _ _ ⟨_, _, _, _, _, _, _, _, _, _, _, _, _, _, _, _, _, _, _, _, _, _, _, _, _, hI, hP, hD⟩ hS (lv_sub hl [2, 3, 4, 5, 6] rfl)
  · have hP := hP.sub (ws' := wX h0 h1 h2 h3 h4 h5 h6 h7 h8 h9 cI cJ d r lc bg w rm k pn fa e1 am dd rt b pd pt tp ++ (wM g0 g1 g2 g3 g4 cI cJ d r gb w rm lc k dr pn pa pi th ga e2 b rt ++ [(ho, .inl (cJ, 1, .inr (.inl (og))))])) [6, 7, 8, 9, 10, 11, 12, 13, 14, 15, 0, 1, 2, 3, 4, 5] rfl
    have hD := hD.sub (ws' := wX h0 h1 h2 h3 h4 h5 h6 h7 h8 h9 cI cJ d r lc bg w rm k pn fa e1 am dd rt b pd pt tp ++ (wM g0 g1 g2 g3 g4 cI cJ d r gb w rm lc k dr pn pa pi th ga e2 b rt ++ [(ho, .inl (cJ, 1, .inr (.inl (og))))])) [6, 7, 8, 9, 10, 11, 12, 13, 14, 15, 0, 1, 2, 3, 4, 5] (by decide) rfl
    refine lv_istore (lv' := [(5, .int (nI 1)), (0, .ref sb), (1, .ref h0), (2, .ref g0), (3, .ref ho), (4, .int (nI i))]) hx hb dL_law_832 hl (by decide) rfl (fun ls hl => ?_)
    refine lv_aload_n hx hb dL_law_834 rfl (lv_at hl 3 rfl) ?_
    refine lv_aload_n hx hb dL_law_835 rfl (lv_at hl 1 rfl) ?_
    refine lv_iload hx hb dL_law_836 (lv_at hl 5 rfl) ?_
    refine lv_iconst (v := nI 1) hx hb dL_law_838 (by decide +kernel) ?_
    refine nk_iadd hx hb dL_law_839 ?_
    refine va_sld hx hb hX hbl hbA hS (vp_in_nI (by omega) (by omega)) dL_law_840 ?_
    refine nk_topi (y := q1) (by rw [nI_clamp (by omega)]; exact hq1) ?_
    have hPm := hP.sub (ws' := wM g0 g1 g2 g3 g4 cI cJ d r gb w rm lc k dr pn pa pi th ga e2 b rt) [10, 11, 12, 13, 14] rfl
    have hDm := hD.sub (ws' := wM g0 g1 g2 g3 g4 cI cJ d r gb w rm lc k dr pn pa pi th ga e2 b rt) [10, 11, 12, 13, 14] (by decide) rfl
    refine nk_icall (wr := wX h0 h1 h2 h3 h4 h5 h6 h7 h8 h9 cI cJ d r lc bg w rm k pn fa e1 am dd rt b pd pt tp ++ [(ho, .inl (cJ, 1, .inr (.inl (og))))]) (va_runV (As := [.int q1]) (rest := []) ⟨hx, hb, hml, hown, hts⟩ (c_X1_charge l D g0 g1 g2 g3 g4 cI cJ d r gb w rm lc k dr pn pa pi th ga e2 b rt H.size q1 z1 a1 hzz1 hpp1 hgb2 hlc he2 he2d hgb hd hpi hdr hpa1) (cwV 1 hts gL_law_X1_charge rfl rfl rfl (by decide +kernel) ⟨Nat.le_of_ble_eq_true rfl, Nat.le_of_ble_eq_true rfl⟩) ⟨nk_Pw.blind, va_recv hK hPm (ci := 1) (q0 := 0) rfl rfl, fun U hU hW => ⟨rfl, by rw [hU], by rw [hU]; exact hPm, va_K.moved hW.alike hK, hDm.weaken (fun _ _ _ _ => trivial)⟩⟩ rfl rfl hl.1 rfl (lv_room (Nat.le_of_ble_eq_true rfl)) dL_law_841 ⟨by show cells + 1 + 0 ≤ 1051; omega, by show slots + 6 + 0 ≤ 9300; omega⟩) hP hD hS hA [10, 11, 12, 13, 14] [0, 1, 2, 3, 4, 5, 6, 7, 8, 9, 15] rfl rfl rfl (by decide) (fun r7 w1 H locs hw9 hP hD hS hk9 => ?_)
    try simp only [halE, hlsE, hmxE] at hw9
    rcases hw9 with ⟨y1, rfl⟩ | ⟨y1, y2, rfl⟩ | ⟨y1, y2, rfl, rfl⟩
    · have hP := hP.sub (ws' := wX h0 h1 h2 h3 h4 h5 h6 h7 h8 h9 cI cJ d r lc bg w rm k pn fa e1 am dd rt b pd pt tp ++ (wM g0 g1 g2 g3 g4 cI cJ d r gb w rm lc k dr pn pa pi 1 ga e2 b rt ++ [(ho, .inl (cJ, 1, .inr (.inl (og))))])) [0, 1, 2, 3, 4, 5, 6, 7, 8, 9, 11, 12, 13, 14, 15, 10] rfl
      have hD := hD.sub (ws' := wX h0 h1 h2 h3 h4 h5 h6 h7 h8 h9 cI cJ d r lc bg w rm k pn fa e1 am dd rt b pd pt tp ++ (wM g0 g1 g2 g3 g4 cI cJ d r gb w rm lc k dr pn pa pi 1 ga e2 b rt ++ [(ho, .inl (cJ, 1, .inr (.inl (og))))])) [0, 1, 2, 3, 4, 5, 6, 7, 8, 9, 11, 12, 13, 14, 15, 10] (by decide) rfl
      refine lv_istore (lv' := [(6, .int r7), (5, .int (nI 1)), (0, .ref sb), (1, .ref h0), (2, .ref g0), (3, .ref ho), (4, .int (nI i))]) hx hb dL_law_844 hl (by decide) rfl (fun ls hl => ?_)
      refine lv_aload_n hx hb dL_law_846 rfl (lv_at hl 4 rfl) ?_
      have hPt := hP.sub (ws' := wM g0 g1 g2 g3 g4 cI cJ d r gb w rm lc k dr pn pa pi 1 ga e2 b rt) [10, 11, 12, 13, 14] rfl
      refine nk_rd (W.runV (As := []) (rest := []) ⟨hx, hb, hml, hown, hts⟩ (c_X1_thrown l D g0 g1 g2 g3 g4 cI cJ d r gb w rm lc k dr pn pa pi 1 ga e2 b rt) (cwV 0 hts gL_law_X1_thrown rfl rfl rfl (by decide +kernel) ⟨Nat.le_of_ble_eq_true rfl, Nat.le_of_ble_eq_true rfl⟩) ⟨nk_Pr.blind, va_recv hK hPt (ci := 1) (q0 := 0) rfl rfl, fun U hU hW => ⟨rfl, by rw [hU]; exact hPt, va_K.moved hW.alike hK⟩⟩ rfl rfl hl.1 rfl (lv_room (Nat.le_of_ble_eq_true rfl)) dL_law_847 ⟨by show cells + 1 + 0 ≤ 1051; omega, by show slots + 6 + 0 ≤ 9300; omega⟩) ?_
      refine W.eq (g2 := F0 m 850 ls [.int (nI 1)]) rfl ?_
      refine lv_iload hx hb dL_law_850 (lv_at hl 1 rfl) ?_
      refine nk_isame (tgt := 857) hx hb rfl dL_law_852 (by decide) ?_
      refine lv_iload hx hb dL_law_857 (lv_at hl 1 rfl) ?_
      refine nk_if_ne (tgt := 874) hx hb (by decide) dL_law_859 (by decide) (fun _ => ?_) (fun c9 => absurd c9 (by decide))
      refine lv_goto (tgt := 877) hx hb dL_law_874 (by decide) ?_
      refine W.widen (k := cells + 1) (n := slots + 6) (by omega) (by omega) ?_
      exact kk _ _ _ ⟨_, _, _, _, _, _, _, _, _, _, _, _, _, _, _, _, _, _, _, _, _, _, _, _, _, hI, hP, hD⟩ hS (lv_sub hl [2, 3, 4, 5, 6] rfl)
    · exfalso; omega
    · exfalso; omega
  · have hP := hP.sub (ws' := wX h0 h1 h2 h3 h4 h5 h6 h7 h8 h9 cI cJ d r lc bg w rm k pn fa e1 am dd rt b pd pt tp ++ (wM g0 g1 g2 g3 g4 cI cJ d r gb w rm lc k dr pn pa pi th ga e2 b rt ++ [(ho, .inl (cJ, 1, .inr (.inl (og))))])) [6, 7, 8, 9, 10, 11, 12, 13, 14, 15, 0, 1, 2, 3, 4, 5] rfl
    have hD := hD.sub (ws' := wX h0 h1 h2 h3 h4 h5 h6 h7 h8 h9 cI cJ d r lc bg w rm k pn fa e1 am dd rt b pd pt tp ++ (wM g0 g1 g2 g3 g4 cI cJ d r gb w rm lc k dr pn pa pi th ga e2 b rt ++ [(ho, .inl (cJ, 1, .inr (.inl (og))))])) [6, 7, 8, 9, 10, 11, 12, 13, 14, 15, 0, 1, 2, 3, 4, 5] (by decide) rfl
    refine lv_istore (lv' := [(5, .int (nI 2)), (0, .ref sb), (1, .ref h0), (2, .ref g0), (3, .ref ho), (4, .int (nI i))]) hx hb dL_law_832 hl (by decide) rfl (fun ls hl => ?_)
    refine lv_aload_n hx hb dL_law_834 rfl (lv_at hl 3 rfl) ?_
    refine lv_aload_n hx hb dL_law_835 rfl (lv_at hl 1 rfl) ?_
    refine lv_iload hx hb dL_law_836 (lv_at hl 5 rfl) ?_
    refine lv_iconst (v := nI 1) hx hb dL_law_838 (by decide +kernel) ?_
    refine nk_iadd hx hb dL_law_839 ?_
    refine va_sld hx hb hX hbl hbA hS (vp_in_nI (by omega) (by omega)) dL_law_840 ?_
    refine nk_topi (y := q1) (by rw [nI_clamp (by omega)]; exact hq1) ?_
    have hPm := hP.sub (ws' := wM g0 g1 g2 g3 g4 cI cJ d r gb w rm lc k dr pn pa pi th ga e2 b rt) [10, 11, 12, 13, 14] rfl
    have hDm := hD.sub (ws' := wM g0 g1 g2 g3 g4 cI cJ d r gb w rm lc k dr pn pa pi th ga e2 b rt) [10, 11, 12, 13, 14] (by decide) rfl
    refine nk_icall (wr := wX h0 h1 h2 h3 h4 h5 h6 h7 h8 h9 cI cJ d r lc bg w rm k pn fa e1 am dd rt b pd pt tp ++ [(ho, .inl (cJ, 1, .inr (.inl (og))))]) (va_runV (As := [.int q1]) (rest := []) ⟨hx, hb, hml, hown, hts⟩ (c_X1_charge l D g0 g1 g2 g3 g4 cI cJ d r gb w rm lc k dr pn pa pi th ga e2 b rt H.size q1 z1 a1 hzz1 hpp1 hgb2 hlc he2 he2d hgb hd hpi hdr hpa1) (cwV 1 hts gL_law_X1_charge rfl rfl rfl (by decide +kernel) ⟨Nat.le_of_ble_eq_true rfl, Nat.le_of_ble_eq_true rfl⟩) ⟨nk_Pw.blind, va_recv hK hPm (ci := 1) (q0 := 0) rfl rfl, fun U hU hW => ⟨rfl, by rw [hU], by rw [hU]; exact hPm, va_K.moved hW.alike hK, hDm.weaken (fun _ _ _ _ => trivial)⟩⟩ rfl rfl hl.1 rfl (lv_room (Nat.le_of_ble_eq_true rfl)) dL_law_841 ⟨by show cells + 1 + 0 ≤ 1051; omega, by show slots + 6 + 0 ≤ 9300; omega⟩) hP hD hS hA [10, 11, 12, 13, 14] [0, 1, 2, 3, 4, 5, 6, 7, 8, 9, 15] rfl rfl rfl (by decide) (fun r7 w1 H locs hw9 hP hD hS hk9 => ?_)
    try simp only [halE, hlsE, hmxE] at hw9
    rcases hw9 with ⟨y1, rfl⟩ | ⟨y1, y2, rfl⟩ | ⟨y1, y2, rfl, rfl⟩
    · exfalso; omega
    · have hP := hP.sub (ws' := wX h0 h1 h2 h3 h4 h5 h6 h7 h8 h9 cI cJ d r lc bg w rm k pn fa e1 am dd rt b pd pt tp ++ (wM g0 g1 g2 g3 g4 cI cJ d r gb w rm lc k dr pn pa pi 2 ga e2 b rt ++ [(ho, .inl (cJ, 1, .inr (.inl (og))))])) [0, 1, 2, 3, 4, 5, 6, 7, 8, 9, 11, 12, 13, 14, 15, 10] rfl
      have hD := hD.sub (ws' := wX h0 h1 h2 h3 h4 h5 h6 h7 h8 h9 cI cJ d r lc bg w rm k pn fa e1 am dd rt b pd pt tp ++ (wM g0 g1 g2 g3 g4 cI cJ d r gb w rm lc k dr pn pa pi 2 ga e2 b rt ++ [(ho, .inl (cJ, 1, .inr (.inl (og))))])) [0, 1, 2, 3, 4, 5, 6, 7, 8, 9, 11, 12, 13, 14, 15, 10] (by decide) rfl
      refine lv_istore (lv' := [(6, .int r7), (5, .int (nI 2)), (0, .ref sb), (1, .ref h0), (2, .ref g0), (3, .ref ho), (4, .int (nI i))]) hx hb dL_law_844 hl (by decide) rfl (fun ls hl => ?_)
      refine lv_aload_n hx hb dL_law_846 rfl (lv_at hl 4 rfl) ?_
      have hPt := hP.sub (ws' := wM g0 g1 g2 g3 g4 cI cJ d r gb w rm lc k dr pn pa pi 2 ga e2 b rt) [10, 11, 12, 13, 14] rfl
      refine nk_rd (W.runV (As := []) (rest := []) ⟨hx, hb, hml, hown, hts⟩ (c_X1_thrown l D g0 g1 g2 g3 g4 cI cJ d r gb w rm lc k dr pn pa pi 2 ga e2 b rt) (cwV 0 hts gL_law_X1_thrown rfl rfl rfl (by decide +kernel) ⟨Nat.le_of_ble_eq_true rfl, Nat.le_of_ble_eq_true rfl⟩) ⟨nk_Pr.blind, va_recv hK hPt (ci := 1) (q0 := 0) rfl rfl, fun U hU hW => ⟨rfl, by rw [hU]; exact hPt, va_K.moved hW.alike hK⟩⟩ rfl rfl hl.1 rfl (lv_room (Nat.le_of_ble_eq_true rfl)) dL_law_847 ⟨by show cells + 1 + 0 ≤ 1051; omega, by show slots + 6 + 0 ≤ 9300; omega⟩) ?_
      refine W.eq (g2 := F0 m 850 ls [.int (nI 2)]) rfl ?_
      refine lv_iload hx hb dL_law_850 (lv_at hl 1 rfl) ?_
      refine nk_isame (tgt := 857) hx hb rfl dL_law_852 (by decide) ?_
      refine lv_iload hx hb dL_law_857 (lv_at hl 1 rfl) ?_
      refine nk_if_ne (tgt := 874) hx hb (by decide) dL_law_859 (by decide) (fun _ => ?_) (fun c9 => absurd c9 (by decide))
      refine lv_goto (tgt := 877) hx hb dL_law_874 (by decide) ?_
      refine W.widen (k := cells + 1) (n := slots + 6) (by omega) (by omega) ?_
      exact kk _ _ _ ⟨_, _, _, _, _, _, _, _, _, _, _, _, _, _, _, _, _, _, _, _, _, _, _, _, _, hI, hP, hD⟩ hS (lv_sub hl [2, 3, 4, 5, 6] rfl)
    · exfalso; omega
set_option maxHeartbeats 8000000 in
set_option maxRecDepth 100000 in
theorem lc_begin {p : Program} {l : Launch} {e : Env} {s : State} {m : MethodId} {below : List Frame} {meth : Method} {c : Code} {sb L : Nat} {xs : Nat → Int32} {D : va_G} {h0 h1 h2 h3 h4 h5 h6 h7 h8 h9 g0 g1 g2 g3 g4 ho : Nat} {cI cJ : ClassId} {H : Heap} {locs : List Loc} {cells slots : Nat} {Q : State → Prop} {ls : Array Slot} {i : Nat}
    (C0 : lw_At p s m meth c sb L xs) (hfl : l.stackTraces = false) (hK : va_K D vwCl (tX cI cJ) s) (hZ : nk_Z (fun q : Nat => s.heap.size ≤ q) s s.heap) (hc9 : cells + 1 ≤ 1051) (hs9 : slots + 6 ≤ 9300) (hi5 : i + 5 ≤ L) (hL : L ≤ 2560) (hSt : nk_St D (fun q : Nat => s.heap.size ≤ q) h0 h1 h2 h3 h4 h5 h6 h7 h8 h9 g0 g1 g2 g3 g4 ho cI cJ H) (hS : va_S (fun q : Nat => s.heap.size ≤ q) s.heap H locs) (hl : lv_has ls 8 [(0, .ref sb), (1, .ref h0), (2, .ref g0), (3, .ref ho), (4, .int (nI i))])
    (kk : ∀ (H1 : Heap) (locs1 : List Loc) (ls1 : Array Slot), nk_St D (fun q : Nat => s.heap.size ≤ q) h0 h1 h2 h3 h4 h5 h6 h7 h8 h9 g0 g1 g2 g3 g4 ho cI cJ H1 → va_S (fun q : Nat => s.heap.size ≤ q) s.heap H1 locs1 → lv_has ls1 8 [(0, .ref sb), (1, .ref h0), (2, .ref g0), (3, .ref ho), (4, .int (nI i))] → W p l e room_1 s m #[Value.ref sb] below meth c H1 locs1 (cells + 1) (slots + 6) Q (F0 m 877 ls1 [])) : W p l e room_1 s m #[Value.ref sb] below meth c H locs cells slots Q (F0 m 136 ls []) := by
  obtain ⟨hx, hb, hr, hml, hown, hts0, hX, hbl, hlocks, hgv⟩ := C0
  have hts : ∀ w ∈ wsL_law, w.before #[Value.ref sb] s = true := fun w h => hts0 w (wsL_law_in w h)
  have hown : s.vm.findClass RL = some m.cls := hown
  have hA : ∀ q : Nat, s.heap.size ≤ q → (fun q : Nat => s.heap.size ≤ q) q := fun _ h => h
  have hbA : ¬ (fun q : Nat => s.heap.size ≤ q) sb := Nat.not_le.mpr hbl
  obtain ⟨d, r, lc, bg, w, rm, k, pn, fa, e1, am, dd, rt, b, pd, pt, tp, gb, dr, pa, pi, ga, e2, th, og, hI, hP, hD⟩ := hSt
  obtain ⟨hlc, hd, hk, hpn, hbg, hw, hrm, he, hed, hfa, ham, hpd, hpd2, hpt, hbs, hb9, hrt, hdd, hroll, hh1, hh2, hh3, htp, hsa, hk0, he2, he2d, hga, hgb, hgb2, hpi, hdr, hpa1, he20, he21, hk0m, he28, hgbz, halE, hmxE, hlsE⟩ := Inv_f hI
  have hgbp : 0 < gb ↔ 0 < lc := by omega
  obtain ⟨q1, hq1⟩ : ∃ q, xs (i + 1) = q := ⟨_, rfl⟩
  obtain ⟨z1, hzz1⟩ : ∃ z, q1.toInt = z := ⟨_, rfl⟩
  obtain ⟨a1, hpp1, hza1⟩ := nk_arg hzz1
  obtain ⟨q2, hq2⟩ : ∃ q, xs (i + 2) = q := ⟨_, rfl⟩
  obtain ⟨z2, hzz2⟩ : ∃ z, q2.toInt = z := ⟨_, rfl⟩
  obtain ⟨a2, hpp2, hza2⟩ := nk_arg hzz2
  obtain ⟨q3, hq3⟩ : ∃ q, xs (i + 3) = q := ⟨_, rfl⟩
  obtain ⟨z3, hzz3⟩ : ∃ z, q3.toInt = z := ⟨_, rfl⟩
  obtain ⟨a3, hpp3, hza3⟩ := nk_arg hzz3
  obtain ⟨q4, hq4⟩ : ∃ q, xs (i + 4) = q := ⟨_, rfl⟩
  obtain ⟨z4, hzz4⟩ : ∃ z, q4.toInt = z := ⟨_, rfl⟩
  obtain ⟨a4, hpp4, hza4⟩ := nk_arg hzz4
  refine lv_aload_n hx hb dL_law_136 rfl (lv_at hl 1 rfl) ?_
  refine lv_aload_n hx hb dL_law_137 rfl (lv_at hl 0 rfl) ?_
  refine lv_iload hx hb dL_law_138 (lv_at hl 4 rfl) ?_
  refine lv_iconst (v := nI 1) hx hb dL_law_140 (by decide +kernel) ?_
  refine nk_iadd hx hb dL_law_141 ?_
  refine va_sld hx hb hX hbl hbA hS (vp_in_nI (by omega) (by omega)) dL_law_142 ?_
  refine nk_topi (y := q1) (by rw [nI_clamp (by omega)]; exact hq1) ?_
  refine lv_aload_n hx hb dL_law_143 rfl (lv_at hl 0 rfl) ?_
  refine lv_iload hx hb dL_law_144 (lv_at hl 4 rfl) ?_
  refine lv_iconst (v := nI 2) hx hb dL_law_146 (by decide +kernel) ?_
  refine nk_iadd hx hb dL_law_147 ?_
  refine va_sld hx hb hX hbl hbA hS (vp_in_nI (by omega) (by omega)) dL_law_148 ?_
  refine nk_topi (y := q2) (by rw [nI_clamp (by omega)]; exact hq2) ?_
  refine lv_aload_n hx hb dL_law_149 rfl (lv_at hl 0 rfl) ?_
  refine lv_iload hx hb dL_law_150 (lv_at hl 4 rfl) ?_
  refine lv_iconst (v := nI 3) hx hb dL_law_152 (by decide +kernel) ?_
  refine nk_iadd hx hb dL_law_153 ?_
  refine va_sld hx hb hX hbl hbA hS (vp_in_nI (by omega) (by omega)) dL_law_154 ?_
  refine nk_topi (y := q3) (by rw [nI_clamp (by omega)]; exact hq3) ?_
  refine lv_aload_n hx hb dL_law_155 rfl (lv_at hl 0 rfl) ?_
  refine lv_iload hx hb dL_law_156 (lv_at hl 4 rfl) ?_
  refine lv_iconst (v := nI 4) hx hb dL_law_158 (by decide +kernel) ?_
  refine nk_iadd hx hb dL_law_159 ?_
  refine va_sld hx hb hX hbl hbA hS (vp_in_nI (by omega) (by omega)) dL_law_160 ?_
  refine nk_topi (y := q4) (by rw [nI_clamp (by omega)]; exact hq4) ?_
  refine lv_aload_n hx hb dL_law_161 rfl (lv_at hl 3 rfl) ?_
  have hPc := hP.sub (ws' := wX h0 h1 h2 h3 h4 h5 h6 h7 h8 h9 cI cJ d r lc bg w rm k pn fa e1 am dd rt b pd pt tp ++ [(ho, .inl (cJ, 1, .inr (.inl (og))))]) [0, 1, 2, 3, 4, 5, 6, 7, 8, 9, 15] rfl
  have hDc := hD.sub (ws' := wX h0 h1 h2 h3 h4 h5 h6 h7 h8 h9 cI cJ d r lc bg w rm k pn fa e1 am dd rt b pd pt tp ++ [(ho, .inl (cJ, 1, .inr (.inl (og))))]) [0, 1, 2, 3, 4, 5, 6, 7, 8, 9, 15] (by decide) rfl
  have hFc := va_free (wc := wX h0 h1 h2 h3 h4 h5 h6 h7 h8 h9 cI cJ d r lc bg w rm k pn fa e1 am dd rt b pd pt tp ++ [(ho, .inl (cJ, 1, .inr (.inl (og))))]) hD hS hA [0, 1, 2, 3, 4, 5, 6, 7, 8, 9, 15] rfl
  have hZH := hZ.kept hS.2.1
  refine nk_icall (mc := 1) (ms := 6) (wr := wM g0 g1 g2 g3 g4 cI cJ d r gb w rm lc k dr pn pa pi th ga e2 b rt) (vx_runSW (As := [.ref h0, .int q1, .int q2, .int q3, .int q4, .ref ho]) (rest := []) ⟨hx, hb, hml, hown, hts⟩ (c_L_begin l hfl D h0 h1 h2 h3 h4 h5 h6 h7 h8 h9 cI cJ d r lc bg w rm k pn fa e1 am dd rt b pd pt tp ho og H.size q1 q2 q3 q4 z1 z2 z3 z4 a1 a2 a3 a4 hzz1 hpp1 hzz2 hpp2 hzz3 hpp3 hzz4 hpp4 hlc hd hk0) (vx_cwSW 6 hts gL_law_L_begin rfl rfl rfl (by decide +kernel) ⟨Nat.le_of_ble_eq_true rfl, Nat.le_of_ble_eq_true rfl⟩) ⟨nk_Px.blind, fun U hU hW => ⟨rfl, by rw [hU], by rw [hU]; exact hPc, va_K.moved hW.alike hK, hDc.weaken (fun _ _ _ _ => trivial), by rw [hU]; exact nk_Z.go hZH hW (fun q h => hFc q h)⟩⟩ rfl rfl hl.1 rfl (lv_room (Nat.le_of_ble_eq_true rfl)) dL_law_162 ⟨by show cells + 1 ≤ 1051; omega, by show slots + 6 ≤ 9300; omega⟩) hP hD hS hA [0, 1, 2, 3, 4, 5, 6, 7, 8, 9, 15] [10, 11, 12, 13, 14] rfl rfl rfl (by decide) (fun r9 w1 H locs hw9 hP hD hS hk9 => ?_)
  rcases hw9 with ⟨rfl, r8, w2, ⟨x1, x2, (⟨x3, x4, x5, rfl, rfl⟩ | ⟨x3, x4, x5, rfl, rfl⟩ | ⟨x3, x4, x5, rfl, rfl⟩ | ⟨x3, x4, x5, rfl, rfl⟩)⟩, rfl⟩ | ⟨rfl, x1, rfl⟩ | ⟨rfl, x1, rfl⟩
  · have hP := hP.sub (ws' := wX h0 h1 h2 h3 h4 h5 h6 h7 h8 h9 cI cJ d r (lc + 1) d a1 (gL a1 (a2 + d / 365)) k pn (va_up fa lc a2) (va_up e1 lc 0) am dd rt b pd pt tp ++ (wM g0 g1 g2 g3 g4 cI cJ d r gb w rm lc k dr pn pa pi th ga e2 b rt ++ [(ho, .inl (cJ, 1, .inr (.inl (vp_updL og 0 ((nI (gL a1 (a2 + d / 365))).toInt64)))))])) [6, 7, 8, 9, 10, 11, 12, 13, 14, 15, 0, 1, 2, 3, 4, 5] rfl
    have hD := hD.sub (ws' := wX h0 h1 h2 h3 h4 h5 h6 h7 h8 h9 cI cJ d r (lc + 1) d a1 (gL a1 (a2 + d / 365)) k pn (va_up fa lc a2) (va_up e1 lc 0) am dd rt b pd pt tp ++ (wM g0 g1 g2 g3 g4 cI cJ d r gb w rm lc k dr pn pa pi th ga e2 b rt ++ [(ho, .inl (cJ, 1, .inr (.inl (vp_updL og 0 ((nI (gL a1 (a2 + d / 365))).toInt64)))))])) [6, 7, 8, 9, 10, 11, 12, 13, 14, 15, 0, 1, 2, 3, 4, 5] (by decide) rfl
    refine lv_istore (lv' := [(5, .int (nI 0)), (0, .ref sb), (1, .ref h0), (2, .ref g0), (3, .ref ho), (4, .int (nI i))]) hx hb dL_law_165 hl (by decide) rfl (fun ls hl => ?_)
    refine lv_aload_n hx hb dL_law_167 rfl (lv_at hl 3 rfl) ?_
    refine lv_aload_n hx hb dL_law_168 rfl (lv_at hl 1 rfl) ?_
    refine lv_iload hx hb dL_law_169 (lv_at hl 5 rfl) ?_
    refine lv_iconst (v := nI 1) hx hb dL_law_171 (by decide +kernel) ?_
    refine nk_iadd hx hb dL_law_172 ?_
    refine va_sld hx hb hX hbl hbA hS (vp_in_nI (by omega) (by omega)) dL_law_173 ?_
    refine nk_topi (y := q1) (by rw [nI_clamp (by omega)]; exact hq1) ?_
    refine lv_aload_n hx hb dL_law_174 rfl (lv_at hl 1 rfl) ?_
    refine lv_iload hx hb dL_law_175 (lv_at hl 5 rfl) ?_
    refine lv_iconst (v := nI 2) hx hb dL_law_177 (by decide +kernel) ?_
    refine nk_iadd hx hb dL_law_178 ?_
    refine va_sld hx hb hX hbl hbA hS (vp_in_nI (by omega) (by omega)) dL_law_179 ?_
    refine nk_topi (y := q2) (by rw [nI_clamp (by omega)]; exact hq2) ?_
    refine lv_aload_n hx hb dL_law_180 rfl (lv_at hl 1 rfl) ?_
    refine lv_iload hx hb dL_law_181 (lv_at hl 5 rfl) ?_
    refine lv_iconst (v := nI 3) hx hb dL_law_183 (by decide +kernel) ?_
    refine nk_iadd hx hb dL_law_184 ?_
    refine va_sld hx hb hX hbl hbA hS (vp_in_nI (by omega) (by omega)) dL_law_185 ?_
    refine nk_topi (y := q3) (by rw [nI_clamp (by omega)]; exact hq3) ?_
    refine lv_aload_n hx hb dL_law_186 rfl (lv_at hl 1 rfl) ?_
    refine lv_iload hx hb dL_law_187 (lv_at hl 5 rfl) ?_
    refine lv_iconst (v := nI 4) hx hb dL_law_189 (by decide +kernel) ?_
    refine nk_iadd hx hb dL_law_190 ?_
    refine va_sld hx hb hX hbl hbA hS (vp_in_nI (by omega) (by omega)) dL_law_191 ?_
    refine nk_topi (y := q4) (by rw [nI_clamp (by omega)]; exact hq4) ?_
    have hPm := hP.sub (ws' := wM g0 g1 g2 g3 g4 cI cJ d r gb w rm lc k dr pn pa pi th ga e2 b rt) [10, 11, 12, 13, 14] rfl
    have hDm := hD.sub (ws' := wM g0 g1 g2 g3 g4 cI cJ d r gb w rm lc k dr pn pa pi th ga e2 b rt) [10, 11, 12, 13, 14] (by decide) rfl
    refine nk_icall (wr := wX h0 h1 h2 h3 h4 h5 h6 h7 h8 h9 cI cJ d r (lc + 1) d a1 (gL a1 (a2 + d / 365)) k pn (va_up fa lc a2) (va_up e1 lc 0) am dd rt b pd pt tp ++ [(ho, .inl (cJ, 1, .inr (.inl (vp_updL og 0 ((nI (gL a1 (a2 + d / 365))).toInt64)))))]) (va_runV (As := [.int q1, .int q2, .int q3, .int q4]) (rest := []) ⟨hx, hb, hml, hown, hts⟩ (c_X1_begin l D g0 g1 g2 g3 g4 cI cJ d r gb w rm lc k dr pn pa pi th ga e2 b rt H.size q1 q2 q3 q4 z1 z2 z3 z4 a1 a2 a3 a4 hzz1 hpp1 hzz2 hpp2 hzz3 hpp3 hzz4 hpp4 hgb2 hd he20 he21 hk0m he28) (cwV 4 hts gL_law_X1_begin rfl rfl rfl (by decide +kernel) ⟨Nat.le_of_ble_eq_true rfl, Nat.le_of_ble_eq_true rfl⟩) ⟨nk_Pw.blind, va_recv hK hPm (ci := 1) (q0 := 0) rfl rfl, fun U hU hW => ⟨rfl, by rw [hU], by rw [hU]; exact hPm, va_K.moved hW.alike hK, hDm.weaken (fun _ _ _ _ => trivial)⟩⟩ rfl rfl hl.1 rfl (lv_room (Nat.le_of_ble_eq_true rfl)) dL_law_192 ⟨by show cells + 1 + 0 ≤ 1051; omega, by show slots + 6 + 0 ≤ 9300; omega⟩) hP hD hS hA [10, 11, 12, 13, 14] [0, 1, 2, 3, 4, 5, 6, 7, 8, 9, 15] rfl rfl rfl (by decide) (fun r7 w1 H locs hw9 hP hD hS hk9 => ?_)
    try simp only [halE, hlsE, hmxE] at hw9
    rcases hw9 with ⟨y1, rfl⟩ | ⟨y1, (⟨y2, rfl⟩ | ⟨y2, y3, rfl⟩)⟩ | ⟨y1, y2, (⟨y3, y4, y5, rfl, rfl⟩ | ⟨y3, y4, y5, rfl, rfl⟩ | ⟨y3, y4, y5, rfl, rfl⟩ | ⟨y3, y4, y5, rfl, rfl⟩)⟩
    · exfalso; omega
    · exfalso; omega
    · exfalso; omega
    · have hP := hP.sub (ws' := wX h0 h1 h2 h3 h4 h5 h6 h7 h8 h9 cI cJ d r (lc + 1) d a1 (gL a1 (a2 + d / 365)) k pn (va_up fa lc a2) (va_up e1 lc 0) am dd rt b pd pt tp ++ (wM g0 g1 g2 g3 g4 cI cJ d r (d + 1) a1 (gL a1 (a2 + d / 365) - a4) 1 k dr pn pa pi 0 (va_up (va_up ga 0 a2) 1 a3) e2 b rt ++ [(ho, .inl (cJ, 1, .inr (.inl (vp_updL og 0 ((nI (gL a1 (a2 + d / 365))).toInt64)))))])) [0, 1, 2, 3, 4, 5, 6, 7, 8, 9, 11, 12, 13, 14, 15, 10] rfl
      have hD := hD.sub (ws' := wX h0 h1 h2 h3 h4 h5 h6 h7 h8 h9 cI cJ d r (lc + 1) d a1 (gL a1 (a2 + d / 365)) k pn (va_up fa lc a2) (va_up e1 lc 0) am dd rt b pd pt tp ++ (wM g0 g1 g2 g3 g4 cI cJ d r (d + 1) a1 (gL a1 (a2 + d / 365) - a4) 1 k dr pn pa pi 0 (va_up (va_up ga 0 a2) 1 a3) e2 b rt ++ [(ho, .inl (cJ, 1, .inr (.inl (vp_updL og 0 ((nI (gL a1 (a2 + d / 365))).toInt64)))))])) [0, 1, 2, 3, 4, 5, 6, 7, 8, 9, 11, 12, 13, 14, 15, 10] (by decide) rfl
      refine lv_istore (lv' := [(6, .int (nI (gL a1 (a2 + d / 365) - a4))), (5, .int (nI 0)), (0, .ref sb), (1, .ref h0), (2, .ref g0), (3, .ref ho), (4, .int (nI i))]) hx hb dL_law_195 hl (by decide) rfl (fun ls hl => ?_)
      refine lv_aload_n hx hb dL_law_197 rfl (lv_at hl 4 rfl) ?_
      have hPt := hP.sub (ws' := wM g0 g1 g2 g3 g4 cI cJ d r (d + 1) a1 (gL a1 (a2 + d / 365) - a4) 1 k dr pn pa pi 0 (va_up (va_up ga 0 a2) 1 a3) e2 b rt) [10, 11, 12, 13, 14] rfl
      refine nk_rd (W.runV (As := []) (rest := []) ⟨hx, hb, hml, hown, hts⟩ (c_X1_thrown l D g0 g1 g2 g3 g4 cI cJ d r (d + 1) a1 (gL a1 (a2 + d / 365) - a4) 1 k dr pn pa pi 0 (va_up (va_up ga 0 a2) 1 a3) e2 b rt) (cwV 0 hts gL_law_X1_thrown rfl rfl rfl (by decide +kernel) ⟨Nat.le_of_ble_eq_true rfl, Nat.le_of_ble_eq_true rfl⟩) ⟨nk_Pr.blind, va_recv hK hPt (ci := 1) (q0 := 0) rfl rfl, fun U hU hW => ⟨rfl, by rw [hU]; exact hPt, va_K.moved hW.alike hK⟩⟩ rfl rfl hl.1 rfl (lv_room (Nat.le_of_ble_eq_true rfl)) dL_law_198 ⟨by show cells + 1 + 0 ≤ 1051; omega, by show slots + 6 + 0 ≤ 9300; omega⟩) ?_
      refine W.eq (g2 := F0 m 201 ls [.int (nI 0)]) rfl ?_
      refine lv_iload hx hb dL_law_201 (lv_at hl 1 rfl) ?_
      refine nk_isame (tgt := 208) hx hb rfl dL_law_203 (by decide) ?_
      refine lv_iload hx hb dL_law_208 (lv_at hl 1 rfl) ?_
      refine nk_if_ne (tgt := 225) hx hb (by decide) dL_law_210 (by decide) (fun c9 => absurd c9 (by decide)) (fun _ => ?_)
      refine lv_aload_n hx hb dL_law_213 rfl (lv_at hl 5 rfl) ?_
      refine lv_iconst (v := nI 0) hx hb dL_law_214 (by decide +kernel) ?_
      refine va_lald hx hb hK hP 15 1 rfl rfl (vp_in_nI (by decide) (by decide)) dL_law_215 ?_
      refine nk_topl (y := (nI (gL a1 (a2 + d / 365))).toInt64) nk_out ?_
      refine lv_iload hx hb dL_law_216 (lv_at hl 0 rfl) ?_
      refine lv_i2l hx hb dL_law_218 rfl ?_
      refine nk_lsame (tgt := 225) hx hb (by rw [show gL a1 (a2 + d / 365) - a4 = gL a1 (a2 + d / 365) from by omega]) dL_law_219 dL_law_220 (by decide) ?_
      refine lv_goto (tgt := 877) hx hb dL_law_225 (by decide) ?_
      refine W.widen (k := cells + 1) (n := slots + 6) (by omega) (by omega) ?_
      have hg9 : gL a1 (a2 + d / 365) ≤ 5500000 := gL_le (by omega)
      have hG0 : gL a1 (a2 + d / 365) - a4 = gL a1 (a2 + d / 365) := by omega
      rw [hG0] at hP hD
      obtain rfl : lc = 0 := x2
      obtain ⟨hk00, hp00, -, -⟩ := hI.2.2.1.2.1 rfl
      subst hk00
      subst hp00
      have hI2 := Inv_begin1 (a3 := a3) hI (by omega : a1 ≤ 10000000) (by omega : 55 ≤ a2 ∧ a2 ≤ 95) hg9
      exact kk _ _ _ ⟨_, _, _, _, _, _, _, _, _, _, _, _, _, _, _, _, _, _, _, _, _, _, _, _, _, hI2, hP, hD⟩ hS (lv_sub hl [2, 3, 4, 5, 6] rfl)
    · exfalso; omega
    · exfalso; omega
    · exfalso; omega
  · have hP := hP.sub (ws' := wX h0 h1 h2 h3 h4 h5 h6 h7 h8 h9 cI cJ d r (lc + 1) d a1 (gL a1 (a2 + d / 365) - a4) (k + 1) pn (va_up fa lc a2) (va_up e1 lc 0) (va_up am k a4) (va_up dd k d) (va_up rt k r) (va_up b k (a4 * 10000)) pd pt tp ++ (wM g0 g1 g2 g3 g4 cI cJ d r gb w rm lc k dr pn pa pi th ga e2 b rt ++ [(ho, .inl (cJ, 1, .inr (.inl (vp_updL og 0 ((nI (gL a1 (a2 + d / 365) - a4)).toInt64)))))])) [6, 7, 8, 9, 10, 11, 12, 13, 14, 15, 0, 1, 2, 3, 4, 5] rfl
    have hD := hD.sub (ws' := wX h0 h1 h2 h3 h4 h5 h6 h7 h8 h9 cI cJ d r (lc + 1) d a1 (gL a1 (a2 + d / 365) - a4) (k + 1) pn (va_up fa lc a2) (va_up e1 lc 0) (va_up am k a4) (va_up dd k d) (va_up rt k r) (va_up b k (a4 * 10000)) pd pt tp ++ (wM g0 g1 g2 g3 g4 cI cJ d r gb w rm lc k dr pn pa pi th ga e2 b rt ++ [(ho, .inl (cJ, 1, .inr (.inl (vp_updL og 0 ((nI (gL a1 (a2 + d / 365) - a4)).toInt64)))))])) [6, 7, 8, 9, 10, 11, 12, 13, 14, 15, 0, 1, 2, 3, 4, 5] (by decide) rfl
    refine lv_istore (lv' := [(5, .int (nI 0)), (0, .ref sb), (1, .ref h0), (2, .ref g0), (3, .ref ho), (4, .int (nI i))]) hx hb dL_law_165 hl (by decide) rfl (fun ls hl => ?_)
    refine lv_aload_n hx hb dL_law_167 rfl (lv_at hl 3 rfl) ?_
    refine lv_aload_n hx hb dL_law_168 rfl (lv_at hl 1 rfl) ?_
    refine lv_iload hx hb dL_law_169 (lv_at hl 5 rfl) ?_
    refine lv_iconst (v := nI 1) hx hb dL_law_171 (by decide +kernel) ?_
    refine nk_iadd hx hb dL_law_172 ?_
    refine va_sld hx hb hX hbl hbA hS (vp_in_nI (by omega) (by omega)) dL_law_173 ?_
    refine nk_topi (y := q1) (by rw [nI_clamp (by omega)]; exact hq1) ?_
    refine lv_aload_n hx hb dL_law_174 rfl (lv_at hl 1 rfl) ?_
    refine lv_iload hx hb dL_law_175 (lv_at hl 5 rfl) ?_
    refine lv_iconst (v := nI 2) hx hb dL_law_177 (by decide +kernel) ?_
    refine nk_iadd hx hb dL_law_178 ?_
    refine va_sld hx hb hX hbl hbA hS (vp_in_nI (by omega) (by omega)) dL_law_179 ?_
    refine nk_topi (y := q2) (by rw [nI_clamp (by omega)]; exact hq2) ?_
    refine lv_aload_n hx hb dL_law_180 rfl (lv_at hl 1 rfl) ?_
    refine lv_iload hx hb dL_law_181 (lv_at hl 5 rfl) ?_
    refine lv_iconst (v := nI 3) hx hb dL_law_183 (by decide +kernel) ?_
    refine nk_iadd hx hb dL_law_184 ?_
    refine va_sld hx hb hX hbl hbA hS (vp_in_nI (by omega) (by omega)) dL_law_185 ?_
    refine nk_topi (y := q3) (by rw [nI_clamp (by omega)]; exact hq3) ?_
    refine lv_aload_n hx hb dL_law_186 rfl (lv_at hl 1 rfl) ?_
    refine lv_iload hx hb dL_law_187 (lv_at hl 5 rfl) ?_
    refine lv_iconst (v := nI 4) hx hb dL_law_189 (by decide +kernel) ?_
    refine nk_iadd hx hb dL_law_190 ?_
    refine va_sld hx hb hX hbl hbA hS (vp_in_nI (by omega) (by omega)) dL_law_191 ?_
    refine nk_topi (y := q4) (by rw [nI_clamp (by omega)]; exact hq4) ?_
    have hPm := hP.sub (ws' := wM g0 g1 g2 g3 g4 cI cJ d r gb w rm lc k dr pn pa pi th ga e2 b rt) [10, 11, 12, 13, 14] rfl
    have hDm := hD.sub (ws' := wM g0 g1 g2 g3 g4 cI cJ d r gb w rm lc k dr pn pa pi th ga e2 b rt) [10, 11, 12, 13, 14] (by decide) rfl
    refine nk_icall (wr := wX h0 h1 h2 h3 h4 h5 h6 h7 h8 h9 cI cJ d r (lc + 1) d a1 (gL a1 (a2 + d / 365) - a4) (k + 1) pn (va_up fa lc a2) (va_up e1 lc 0) (va_up am k a4) (va_up dd k d) (va_up rt k r) (va_up b k (a4 * 10000)) pd pt tp ++ [(ho, .inl (cJ, 1, .inr (.inl (vp_updL og 0 ((nI (gL a1 (a2 + d / 365) - a4)).toInt64)))))]) (va_runV (As := [.int q1, .int q2, .int q3, .int q4]) (rest := []) ⟨hx, hb, hml, hown, hts⟩ (c_X1_begin l D g0 g1 g2 g3 g4 cI cJ d r gb w rm lc k dr pn pa pi th ga e2 b rt H.size q1 q2 q3 q4 z1 z2 z3 z4 a1 a2 a3 a4 hzz1 hpp1 hzz2 hpp2 hzz3 hpp3 hzz4 hpp4 hgb2 hd he20 he21 hk0m he28) (cwV 4 hts gL_law_X1_begin rfl rfl rfl (by decide +kernel) ⟨Nat.le_of_ble_eq_true rfl, Nat.le_of_ble_eq_true rfl⟩) ⟨nk_Pw.blind, va_recv hK hPm (ci := 1) (q0 := 0) rfl rfl, fun U hU hW => ⟨rfl, by rw [hU], by rw [hU]; exact hPm, va_K.moved hW.alike hK, hDm.weaken (fun _ _ _ _ => trivial)⟩⟩ rfl rfl hl.1 rfl (lv_room (Nat.le_of_ble_eq_true rfl)) dL_law_192 ⟨by show cells + 1 + 0 ≤ 1051; omega, by show slots + 6 + 0 ≤ 9300; omega⟩) hP hD hS hA [10, 11, 12, 13, 14] [0, 1, 2, 3, 4, 5, 6, 7, 8, 9, 15] rfl rfl rfl (by decide) (fun r7 w1 H locs hw9 hP hD hS hk9 => ?_)
    try simp only [halE, hlsE, hmxE] at hw9
    rcases hw9 with ⟨y1, rfl⟩ | ⟨y1, (⟨y2, rfl⟩ | ⟨y2, y3, rfl⟩)⟩ | ⟨y1, y2, (⟨y3, y4, y5, rfl, rfl⟩ | ⟨y3, y4, y5, rfl, rfl⟩ | ⟨y3, y4, y5, rfl, rfl⟩ | ⟨y3, y4, y5, rfl, rfl⟩)⟩
    · exfalso; omega
    · exfalso; omega
    · exfalso; omega
    · exfalso; omega
    · have hP := hP.sub (ws' := wX h0 h1 h2 h3 h4 h5 h6 h7 h8 h9 cI cJ d r (lc + 1) d a1 (gL a1 (a2 + d / 365) - a4) (k + 1) pn (va_up fa lc a2) (va_up e1 lc 0) (va_up am k a4) (va_up dd k d) (va_up rt k r) (va_up b k (a4 * 10000)) pd pt tp ++ (wM g0 g1 g2 g3 g4 cI cJ d r (d + 1) a1 (gL a1 (a2 + d / 365) - a4) 1 (k + 1) (dr + a4) pn pa pi 0 (va_up (va_up ga 0 a2) 1 a3) e2 (va_up b k (a4 * 10000)) (va_up rt k r) ++ [(ho, .inl (cJ, 1, .inr (.inl (vp_updL og 0 ((nI (gL a1 (a2 + d / 365) - a4)).toInt64)))))])) [0, 1, 2, 3, 4, 5, 6, 7, 8, 9, 11, 12, 13, 14, 15, 10] rfl
      have hD := hD.sub (ws' := wX h0 h1 h2 h3 h4 h5 h6 h7 h8 h9 cI cJ d r (lc + 1) d a1 (gL a1 (a2 + d / 365) - a4) (k + 1) pn (va_up fa lc a2) (va_up e1 lc 0) (va_up am k a4) (va_up dd k d) (va_up rt k r) (va_up b k (a4 * 10000)) pd pt tp ++ (wM g0 g1 g2 g3 g4 cI cJ d r (d + 1) a1 (gL a1 (a2 + d / 365) - a4) 1 (k + 1) (dr + a4) pn pa pi 0 (va_up (va_up ga 0 a2) 1 a3) e2 (va_up b k (a4 * 10000)) (va_up rt k r) ++ [(ho, .inl (cJ, 1, .inr (.inl (vp_updL og 0 ((nI (gL a1 (a2 + d / 365) - a4)).toInt64)))))])) [0, 1, 2, 3, 4, 5, 6, 7, 8, 9, 11, 12, 13, 14, 15, 10] (by decide) rfl
      refine lv_istore (lv' := [(6, .int (nI (gL a1 (a2 + d / 365) - a4))), (5, .int (nI 0)), (0, .ref sb), (1, .ref h0), (2, .ref g0), (3, .ref ho), (4, .int (nI i))]) hx hb dL_law_195 hl (by decide) rfl (fun ls hl => ?_)
      refine lv_aload_n hx hb dL_law_197 rfl (lv_at hl 4 rfl) ?_
      have hPt := hP.sub (ws' := wM g0 g1 g2 g3 g4 cI cJ d r (d + 1) a1 (gL a1 (a2 + d / 365) - a4) 1 (k + 1) (dr + a4) pn pa pi 0 (va_up (va_up ga 0 a2) 1 a3) e2 (va_up b k (a4 * 10000)) (va_up rt k r)) [10, 11, 12, 13, 14] rfl
      refine nk_rd (W.runV (As := []) (rest := []) ⟨hx, hb, hml, hown, hts⟩ (c_X1_thrown l D g0 g1 g2 g3 g4 cI cJ d r (d + 1) a1 (gL a1 (a2 + d / 365) - a4) 1 (k + 1) (dr + a4) pn pa pi 0 (va_up (va_up ga 0 a2) 1 a3) e2 (va_up b k (a4 * 10000)) (va_up rt k r)) (cwV 0 hts gL_law_X1_thrown rfl rfl rfl (by decide +kernel) ⟨Nat.le_of_ble_eq_true rfl, Nat.le_of_ble_eq_true rfl⟩) ⟨nk_Pr.blind, va_recv hK hPt (ci := 1) (q0 := 0) rfl rfl, fun U hU hW => ⟨rfl, by rw [hU]; exact hPt, va_K.moved hW.alike hK⟩⟩ rfl rfl hl.1 rfl (lv_room (Nat.le_of_ble_eq_true rfl)) dL_law_198 ⟨by show cells + 1 + 0 ≤ 1051; omega, by show slots + 6 + 0 ≤ 9300; omega⟩) ?_
      refine W.eq (g2 := F0 m 201 ls [.int (nI 0)]) rfl ?_
      refine lv_iload hx hb dL_law_201 (lv_at hl 1 rfl) ?_
      refine nk_isame (tgt := 208) hx hb rfl dL_law_203 (by decide) ?_
      refine lv_iload hx hb dL_law_208 (lv_at hl 1 rfl) ?_
      refine nk_if_ne (tgt := 225) hx hb (by decide) dL_law_210 (by decide) (fun c9 => absurd c9 (by decide)) (fun _ => ?_)
      refine lv_aload_n hx hb dL_law_213 rfl (lv_at hl 5 rfl) ?_
      refine lv_iconst (v := nI 0) hx hb dL_law_214 (by decide +kernel) ?_
      refine va_lald hx hb hK hP 15 1 rfl rfl (vp_in_nI (by decide) (by decide)) dL_law_215 ?_
      refine nk_topl (y := (nI (gL a1 (a2 + d / 365) - a4)).toInt64) nk_out ?_
      refine lv_iload hx hb dL_law_216 (lv_at hl 0 rfl) ?_
      refine lv_i2l hx hb dL_law_218 rfl ?_
      refine nk_lsame (tgt := 225) hx hb rfl dL_law_219 dL_law_220 (by decide) ?_
      refine lv_goto (tgt := 877) hx hb dL_law_225 (by decide) ?_
      refine W.widen (k := cells + 1) (n := slots + 6) (by omega) (by omega) ?_
      have hg9 : gL a1 (a2 + d / 365) ≤ 5500000 := gL_le (by omega)
      obtain rfl : lc = 0 := x2
      obtain ⟨hk00, hp00, -, -⟩ := hI.2.2.1.2.1 rfl
      subst hk00
      subst hp00
      have hI2 := Inv_begin1 (a3 := a3) hI (by omega : a1 ≤ 10000000) (by omega : 55 ≤ a2 ∧ a2 ≤ 95) hg9
      have hI3 := Inv_draw hI2 (a := a4) (by omega) (by decide) (by decide) (alive_up (a := 0) (v := 0) 1 (by decide) up_s)
      exact kk _ _ _ ⟨_, _, _, _, _, _, _, _, _, _, _, _, _, _, _, _, _, _, _, _, _, _, _, _, _, hI3, hP, hD⟩ hS (lv_sub hl [2, 3, 4, 5, 6] rfl)
    · exfalso; omega
    · exfalso; omega
  · have hP := hP.sub (ws' := wX h0 h1 h2 h3 h4 h5 h6 h7 h8 h9 cI cJ d r (lc + 1 + 1) d a1 (gL a1 (min a2 a3 + d / 365)) k pn (va_up (va_up fa lc a2) (lc + 1) a3) (va_up (va_up e1 lc 0) (lc + 1) 0) am dd rt b pd pt tp ++ (wM g0 g1 g2 g3 g4 cI cJ d r gb w rm lc k dr pn pa pi th ga e2 b rt ++ [(ho, .inl (cJ, 1, .inr (.inl (vp_updL og 0 ((nI (gL a1 (min a2 a3 + d / 365))).toInt64)))))])) [6, 7, 8, 9, 10, 11, 12, 13, 14, 15, 0, 1, 2, 3, 4, 5] rfl
    have hD := hD.sub (ws' := wX h0 h1 h2 h3 h4 h5 h6 h7 h8 h9 cI cJ d r (lc + 1 + 1) d a1 (gL a1 (min a2 a3 + d / 365)) k pn (va_up (va_up fa lc a2) (lc + 1) a3) (va_up (va_up e1 lc 0) (lc + 1) 0) am dd rt b pd pt tp ++ (wM g0 g1 g2 g3 g4 cI cJ d r gb w rm lc k dr pn pa pi th ga e2 b rt ++ [(ho, .inl (cJ, 1, .inr (.inl (vp_updL og 0 ((nI (gL a1 (min a2 a3 + d / 365))).toInt64)))))])) [6, 7, 8, 9, 10, 11, 12, 13, 14, 15, 0, 1, 2, 3, 4, 5] (by decide) rfl
    refine lv_istore (lv' := [(5, .int (nI 0)), (0, .ref sb), (1, .ref h0), (2, .ref g0), (3, .ref ho), (4, .int (nI i))]) hx hb dL_law_165 hl (by decide) rfl (fun ls hl => ?_)
    refine lv_aload_n hx hb dL_law_167 rfl (lv_at hl 3 rfl) ?_
    refine lv_aload_n hx hb dL_law_168 rfl (lv_at hl 1 rfl) ?_
    refine lv_iload hx hb dL_law_169 (lv_at hl 5 rfl) ?_
    refine lv_iconst (v := nI 1) hx hb dL_law_171 (by decide +kernel) ?_
    refine nk_iadd hx hb dL_law_172 ?_
    refine va_sld hx hb hX hbl hbA hS (vp_in_nI (by omega) (by omega)) dL_law_173 ?_
    refine nk_topi (y := q1) (by rw [nI_clamp (by omega)]; exact hq1) ?_
    refine lv_aload_n hx hb dL_law_174 rfl (lv_at hl 1 rfl) ?_
    refine lv_iload hx hb dL_law_175 (lv_at hl 5 rfl) ?_
    refine lv_iconst (v := nI 2) hx hb dL_law_177 (by decide +kernel) ?_
    refine nk_iadd hx hb dL_law_178 ?_
    refine va_sld hx hb hX hbl hbA hS (vp_in_nI (by omega) (by omega)) dL_law_179 ?_
    refine nk_topi (y := q2) (by rw [nI_clamp (by omega)]; exact hq2) ?_
    refine lv_aload_n hx hb dL_law_180 rfl (lv_at hl 1 rfl) ?_
    refine lv_iload hx hb dL_law_181 (lv_at hl 5 rfl) ?_
    refine lv_iconst (v := nI 3) hx hb dL_law_183 (by decide +kernel) ?_
    refine nk_iadd hx hb dL_law_184 ?_
    refine va_sld hx hb hX hbl hbA hS (vp_in_nI (by omega) (by omega)) dL_law_185 ?_
    refine nk_topi (y := q3) (by rw [nI_clamp (by omega)]; exact hq3) ?_
    refine lv_aload_n hx hb dL_law_186 rfl (lv_at hl 1 rfl) ?_
    refine lv_iload hx hb dL_law_187 (lv_at hl 5 rfl) ?_
    refine lv_iconst (v := nI 4) hx hb dL_law_189 (by decide +kernel) ?_
    refine nk_iadd hx hb dL_law_190 ?_
    refine va_sld hx hb hX hbl hbA hS (vp_in_nI (by omega) (by omega)) dL_law_191 ?_
    refine nk_topi (y := q4) (by rw [nI_clamp (by omega)]; exact hq4) ?_
    have hPm := hP.sub (ws' := wM g0 g1 g2 g3 g4 cI cJ d r gb w rm lc k dr pn pa pi th ga e2 b rt) [10, 11, 12, 13, 14] rfl
    have hDm := hD.sub (ws' := wM g0 g1 g2 g3 g4 cI cJ d r gb w rm lc k dr pn pa pi th ga e2 b rt) [10, 11, 12, 13, 14] (by decide) rfl
    refine nk_icall (wr := wX h0 h1 h2 h3 h4 h5 h6 h7 h8 h9 cI cJ d r (lc + 1 + 1) d a1 (gL a1 (min a2 a3 + d / 365)) k pn (va_up (va_up fa lc a2) (lc + 1) a3) (va_up (va_up e1 lc 0) (lc + 1) 0) am dd rt b pd pt tp ++ [(ho, .inl (cJ, 1, .inr (.inl (vp_updL og 0 ((nI (gL a1 (min a2 a3 + d / 365))).toInt64)))))]) (va_runV (As := [.int q1, .int q2, .int q3, .int q4]) (rest := []) ⟨hx, hb, hml, hown, hts⟩ (c_X1_begin l D g0 g1 g2 g3 g4 cI cJ d r gb w rm lc k dr pn pa pi th ga e2 b rt H.size q1 q2 q3 q4 z1 z2 z3 z4 a1 a2 a3 a4 hzz1 hpp1 hzz2 hpp2 hzz3 hpp3 hzz4 hpp4 hgb2 hd he20 he21 hk0m he28) (cwV 4 hts gL_law_X1_begin rfl rfl rfl (by decide +kernel) ⟨Nat.le_of_ble_eq_true rfl, Nat.le_of_ble_eq_true rfl⟩) ⟨nk_Pw.blind, va_recv hK hPm (ci := 1) (q0 := 0) rfl rfl, fun U hU hW => ⟨rfl, by rw [hU], by rw [hU]; exact hPm, va_K.moved hW.alike hK, hDm.weaken (fun _ _ _ _ => trivial)⟩⟩ rfl rfl hl.1 rfl (lv_room (Nat.le_of_ble_eq_true rfl)) dL_law_192 ⟨by show cells + 1 + 0 ≤ 1051; omega, by show slots + 6 + 0 ≤ 9300; omega⟩) hP hD hS hA [10, 11, 12, 13, 14] [0, 1, 2, 3, 4, 5, 6, 7, 8, 9, 15] rfl rfl rfl (by decide) (fun r7 w1 H locs hw9 hP hD hS hk9 => ?_)
    try simp only [halE, hlsE, hmxE] at hw9
    rcases hw9 with ⟨y1, rfl⟩ | ⟨y1, (⟨y2, rfl⟩ | ⟨y2, y3, rfl⟩)⟩ | ⟨y1, y2, (⟨y3, y4, y5, rfl, rfl⟩ | ⟨y3, y4, y5, rfl, rfl⟩ | ⟨y3, y4, y5, rfl, rfl⟩ | ⟨y3, y4, y5, rfl, rfl⟩)⟩
    · exfalso; omega
    · exfalso; omega
    · exfalso; omega
    · exfalso; omega
    · exfalso; omega
    · have hP := hP.sub (ws' := wX h0 h1 h2 h3 h4 h5 h6 h7 h8 h9 cI cJ d r (lc + 1 + 1) d a1 (gL a1 (min a2 a3 + d / 365)) k pn (va_up (va_up fa lc a2) (lc + 1) a3) (va_up (va_up e1 lc 0) (lc + 1) 0) am dd rt b pd pt tp ++ (wM g0 g1 g2 g3 g4 cI cJ d r (d + 1) a1 (gL a1 (min a2 a3 + d / 365) - a4) 2 k dr pn pa pi 0 (va_up (va_up ga 0 a2) 1 a3) e2 b rt ++ [(ho, .inl (cJ, 1, .inr (.inl (vp_updL og 0 ((nI (gL a1 (min a2 a3 + d / 365))).toInt64)))))])) [0, 1, 2, 3, 4, 5, 6, 7, 8, 9, 11, 12, 13, 14, 15, 10] rfl
      have hD := hD.sub (ws' := wX h0 h1 h2 h3 h4 h5 h6 h7 h8 h9 cI cJ d r (lc + 1 + 1) d a1 (gL a1 (min a2 a3 + d / 365)) k pn (va_up (va_up fa lc a2) (lc + 1) a3) (va_up (va_up e1 lc 0) (lc + 1) 0) am dd rt b pd pt tp ++ (wM g0 g1 g2 g3 g4 cI cJ d r (d + 1) a1 (gL a1 (min a2 a3 + d / 365) - a4) 2 k dr pn pa pi 0 (va_up (va_up ga 0 a2) 1 a3) e2 b rt ++ [(ho, .inl (cJ, 1, .inr (.inl (vp_updL og 0 ((nI (gL a1 (min a2 a3 + d / 365))).toInt64)))))])) [0, 1, 2, 3, 4, 5, 6, 7, 8, 9, 11, 12, 13, 14, 15, 10] (by decide) rfl
      refine lv_istore (lv' := [(6, .int (nI (gL a1 (min a2 a3 + d / 365) - a4))), (5, .int (nI 0)), (0, .ref sb), (1, .ref h0), (2, .ref g0), (3, .ref ho), (4, .int (nI i))]) hx hb dL_law_195 hl (by decide) rfl (fun ls hl => ?_)
      refine lv_aload_n hx hb dL_law_197 rfl (lv_at hl 4 rfl) ?_
      have hPt := hP.sub (ws' := wM g0 g1 g2 g3 g4 cI cJ d r (d + 1) a1 (gL a1 (min a2 a3 + d / 365) - a4) 2 k dr pn pa pi 0 (va_up (va_up ga 0 a2) 1 a3) e2 b rt) [10, 11, 12, 13, 14] rfl
      refine nk_rd (W.runV (As := []) (rest := []) ⟨hx, hb, hml, hown, hts⟩ (c_X1_thrown l D g0 g1 g2 g3 g4 cI cJ d r (d + 1) a1 (gL a1 (min a2 a3 + d / 365) - a4) 2 k dr pn pa pi 0 (va_up (va_up ga 0 a2) 1 a3) e2 b rt) (cwV 0 hts gL_law_X1_thrown rfl rfl rfl (by decide +kernel) ⟨Nat.le_of_ble_eq_true rfl, Nat.le_of_ble_eq_true rfl⟩) ⟨nk_Pr.blind, va_recv hK hPt (ci := 1) (q0 := 0) rfl rfl, fun U hU hW => ⟨rfl, by rw [hU]; exact hPt, va_K.moved hW.alike hK⟩⟩ rfl rfl hl.1 rfl (lv_room (Nat.le_of_ble_eq_true rfl)) dL_law_198 ⟨by show cells + 1 + 0 ≤ 1051; omega, by show slots + 6 + 0 ≤ 9300; omega⟩) ?_
      refine W.eq (g2 := F0 m 201 ls [.int (nI 0)]) rfl ?_
      refine lv_iload hx hb dL_law_201 (lv_at hl 1 rfl) ?_
      refine nk_isame (tgt := 208) hx hb rfl dL_law_203 (by decide) ?_
      refine lv_iload hx hb dL_law_208 (lv_at hl 1 rfl) ?_
      refine nk_if_ne (tgt := 225) hx hb (by decide) dL_law_210 (by decide) (fun c9 => absurd c9 (by decide)) (fun _ => ?_)
      refine lv_aload_n hx hb dL_law_213 rfl (lv_at hl 5 rfl) ?_
      refine lv_iconst (v := nI 0) hx hb dL_law_214 (by decide +kernel) ?_
      refine va_lald hx hb hK hP 15 1 rfl rfl (vp_in_nI (by decide) (by decide)) dL_law_215 ?_
      refine nk_topl (y := (nI (gL a1 (min a2 a3 + d / 365))).toInt64) nk_out ?_
      refine lv_iload hx hb dL_law_216 (lv_at hl 0 rfl) ?_
      refine lv_i2l hx hb dL_law_218 rfl ?_
      refine nk_lsame (tgt := 225) hx hb (by rw [show gL a1 (min a2 a3 + d / 365) - a4 = gL a1 (min a2 a3 + d / 365) from by omega]) dL_law_219 dL_law_220 (by decide) ?_
      refine lv_goto (tgt := 877) hx hb dL_law_225 (by decide) ?_
      refine W.widen (k := cells + 1) (n := slots + 6) (by omega) (by omega) ?_
      have hg9 : gL a1 (min a2 a3 + d / 365) ≤ 5500000 := gL_le (by omega)
      have hG0 : gL a1 (min a2 a3 + d / 365) - a4 = gL a1 (min a2 a3 + d / 365) := by omega
      rw [hG0] at hP hD
      obtain rfl : lc = 0 := x2
      obtain ⟨hk00, hp00, -, -⟩ := hI.2.2.1.2.1 rfl
      subst hk00
      subst hp00
      have hI2 := Inv_begin2 (a3 := a3) hI (by omega : a1 ≤ 10000000) (by omega : 55 ≤ a2 ∧ a2 ≤ 95) (by omega : 55 ≤ a3 ∧ a3 ≤ 95) hg9
      exact kk _ _ _ ⟨_, _, _, _, _, _, _, _, _, _, _, _, _, _, _, _, _, _, _, _, _, _, _, _, _, hI2, hP, hD⟩ hS (lv_sub hl [2, 3, 4, 5, 6] rfl)
    · exfalso; omega
  · have hP := hP.sub (ws' := wX h0 h1 h2 h3 h4 h5 h6 h7 h8 h9 cI cJ d r (lc + 1 + 1) d a1 (gL a1 (min a2 a3 + d / 365) - a4) (k + 1) pn (va_up (va_up fa lc a2) (lc + 1) a3) (va_up (va_up e1 lc 0) (lc + 1) 0) (va_up am k a4) (va_up dd k d) (va_up rt k r) (va_up b k (a4 * 10000)) pd pt tp ++ (wM g0 g1 g2 g3 g4 cI cJ d r gb w rm lc k dr pn pa pi th ga e2 b rt ++ [(ho, .inl (cJ, 1, .inr (.inl (vp_updL og 0 ((nI (gL a1 (min a2 a3 + d / 365) - a4)).toInt64)))))])) [6, 7, 8, 9, 10, 11, 12, 13, 14, 15, 0, 1, 2, 3, 4, 5] rfl
    have hD := hD.sub (ws' := wX h0 h1 h2 h3 h4 h5 h6 h7 h8 h9 cI cJ d r (lc + 1 + 1) d a1 (gL a1 (min a2 a3 + d / 365) - a4) (k + 1) pn (va_up (va_up fa lc a2) (lc + 1) a3) (va_up (va_up e1 lc 0) (lc + 1) 0) (va_up am k a4) (va_up dd k d) (va_up rt k r) (va_up b k (a4 * 10000)) pd pt tp ++ (wM g0 g1 g2 g3 g4 cI cJ d r gb w rm lc k dr pn pa pi th ga e2 b rt ++ [(ho, .inl (cJ, 1, .inr (.inl (vp_updL og 0 ((nI (gL a1 (min a2 a3 + d / 365) - a4)).toInt64)))))])) [6, 7, 8, 9, 10, 11, 12, 13, 14, 15, 0, 1, 2, 3, 4, 5] (by decide) rfl
    refine lv_istore (lv' := [(5, .int (nI 0)), (0, .ref sb), (1, .ref h0), (2, .ref g0), (3, .ref ho), (4, .int (nI i))]) hx hb dL_law_165 hl (by decide) rfl (fun ls hl => ?_)
    refine lv_aload_n hx hb dL_law_167 rfl (lv_at hl 3 rfl) ?_
    refine lv_aload_n hx hb dL_law_168 rfl (lv_at hl 1 rfl) ?_
    refine lv_iload hx hb dL_law_169 (lv_at hl 5 rfl) ?_
    refine lv_iconst (v := nI 1) hx hb dL_law_171 (by decide +kernel) ?_
    refine nk_iadd hx hb dL_law_172 ?_
    refine va_sld hx hb hX hbl hbA hS (vp_in_nI (by omega) (by omega)) dL_law_173 ?_
    refine nk_topi (y := q1) (by rw [nI_clamp (by omega)]; exact hq1) ?_
    refine lv_aload_n hx hb dL_law_174 rfl (lv_at hl 1 rfl) ?_
    refine lv_iload hx hb dL_law_175 (lv_at hl 5 rfl) ?_
    refine lv_iconst (v := nI 2) hx hb dL_law_177 (by decide +kernel) ?_
    refine nk_iadd hx hb dL_law_178 ?_
    refine va_sld hx hb hX hbl hbA hS (vp_in_nI (by omega) (by omega)) dL_law_179 ?_
    refine nk_topi (y := q2) (by rw [nI_clamp (by omega)]; exact hq2) ?_
    refine lv_aload_n hx hb dL_law_180 rfl (lv_at hl 1 rfl) ?_
    refine lv_iload hx hb dL_law_181 (lv_at hl 5 rfl) ?_
    refine lv_iconst (v := nI 3) hx hb dL_law_183 (by decide +kernel) ?_
    refine nk_iadd hx hb dL_law_184 ?_
    refine va_sld hx hb hX hbl hbA hS (vp_in_nI (by omega) (by omega)) dL_law_185 ?_
    refine nk_topi (y := q3) (by rw [nI_clamp (by omega)]; exact hq3) ?_
    refine lv_aload_n hx hb dL_law_186 rfl (lv_at hl 1 rfl) ?_
    refine lv_iload hx hb dL_law_187 (lv_at hl 5 rfl) ?_
    refine lv_iconst (v := nI 4) hx hb dL_law_189 (by decide +kernel) ?_
    refine nk_iadd hx hb dL_law_190 ?_
    refine va_sld hx hb hX hbl hbA hS (vp_in_nI (by omega) (by omega)) dL_law_191 ?_
    refine nk_topi (y := q4) (by rw [nI_clamp (by omega)]; exact hq4) ?_
    have hPm := hP.sub (ws' := wM g0 g1 g2 g3 g4 cI cJ d r gb w rm lc k dr pn pa pi th ga e2 b rt) [10, 11, 12, 13, 14] rfl
    have hDm := hD.sub (ws' := wM g0 g1 g2 g3 g4 cI cJ d r gb w rm lc k dr pn pa pi th ga e2 b rt) [10, 11, 12, 13, 14] (by decide) rfl
    refine nk_icall (wr := wX h0 h1 h2 h3 h4 h5 h6 h7 h8 h9 cI cJ d r (lc + 1 + 1) d a1 (gL a1 (min a2 a3 + d / 365) - a4) (k + 1) pn (va_up (va_up fa lc a2) (lc + 1) a3) (va_up (va_up e1 lc 0) (lc + 1) 0) (va_up am k a4) (va_up dd k d) (va_up rt k r) (va_up b k (a4 * 10000)) pd pt tp ++ [(ho, .inl (cJ, 1, .inr (.inl (vp_updL og 0 ((nI (gL a1 (min a2 a3 + d / 365) - a4)).toInt64)))))]) (va_runV (As := [.int q1, .int q2, .int q3, .int q4]) (rest := []) ⟨hx, hb, hml, hown, hts⟩ (c_X1_begin l D g0 g1 g2 g3 g4 cI cJ d r gb w rm lc k dr pn pa pi th ga e2 b rt H.size q1 q2 q3 q4 z1 z2 z3 z4 a1 a2 a3 a4 hzz1 hpp1 hzz2 hpp2 hzz3 hpp3 hzz4 hpp4 hgb2 hd he20 he21 hk0m he28) (cwV 4 hts gL_law_X1_begin rfl rfl rfl (by decide +kernel) ⟨Nat.le_of_ble_eq_true rfl, Nat.le_of_ble_eq_true rfl⟩) ⟨nk_Pw.blind, va_recv hK hPm (ci := 1) (q0 := 0) rfl rfl, fun U hU hW => ⟨rfl, by rw [hU], by rw [hU]; exact hPm, va_K.moved hW.alike hK, hDm.weaken (fun _ _ _ _ => trivial)⟩⟩ rfl rfl hl.1 rfl (lv_room (Nat.le_of_ble_eq_true rfl)) dL_law_192 ⟨by show cells + 1 + 0 ≤ 1051; omega, by show slots + 6 + 0 ≤ 9300; omega⟩) hP hD hS hA [10, 11, 12, 13, 14] [0, 1, 2, 3, 4, 5, 6, 7, 8, 9, 15] rfl rfl rfl (by decide) (fun r7 w1 H locs hw9 hP hD hS hk9 => ?_)
    try simp only [halE, hlsE, hmxE] at hw9
    rcases hw9 with ⟨y1, rfl⟩ | ⟨y1, (⟨y2, rfl⟩ | ⟨y2, y3, rfl⟩)⟩ | ⟨y1, y2, (⟨y3, y4, y5, rfl, rfl⟩ | ⟨y3, y4, y5, rfl, rfl⟩ | ⟨y3, y4, y5, rfl, rfl⟩ | ⟨y3, y4, y5, rfl, rfl⟩)⟩
    · exfalso; omega
    · exfalso; omega
    · exfalso; omega
    · exfalso; omega
    · exfalso; omega
    · exfalso; omega
    · have hP := hP.sub (ws' := wX h0 h1 h2 h3 h4 h5 h6 h7 h8 h9 cI cJ d r (lc + 1 + 1) d a1 (gL a1 (min a2 a3 + d / 365) - a4) (k + 1) pn (va_up (va_up fa lc a2) (lc + 1) a3) (va_up (va_up e1 lc 0) (lc + 1) 0) (va_up am k a4) (va_up dd k d) (va_up rt k r) (va_up b k (a4 * 10000)) pd pt tp ++ (wM g0 g1 g2 g3 g4 cI cJ d r (d + 1) a1 (gL a1 (min a2 a3 + d / 365) - a4) 2 (k + 1) (dr + a4) pn pa pi 0 (va_up (va_up ga 0 a2) 1 a3) e2 (va_up b k (a4 * 10000)) (va_up rt k r) ++ [(ho, .inl (cJ, 1, .inr (.inl (vp_updL og 0 ((nI (gL a1 (min a2 a3 + d / 365) - a4)).toInt64)))))])) [0, 1, 2, 3, 4, 5, 6, 7, 8, 9, 11, 12, 13, 14, 15, 10] rfl
      have hD := hD.sub (ws' := wX h0 h1 h2 h3 h4 h5 h6 h7 h8 h9 cI cJ d r (lc + 1 + 1) d a1 (gL a1 (min a2 a3 + d / 365) - a4) (k + 1) pn (va_up (va_up fa lc a2) (lc + 1) a3) (va_up (va_up e1 lc 0) (lc + 1) 0) (va_up am k a4) (va_up dd k d) (va_up rt k r) (va_up b k (a4 * 10000)) pd pt tp ++ (wM g0 g1 g2 g3 g4 cI cJ d r (d + 1) a1 (gL a1 (min a2 a3 + d / 365) - a4) 2 (k + 1) (dr + a4) pn pa pi 0 (va_up (va_up ga 0 a2) 1 a3) e2 (va_up b k (a4 * 10000)) (va_up rt k r) ++ [(ho, .inl (cJ, 1, .inr (.inl (vp_updL og 0 ((nI (gL a1 (min a2 a3 + d / 365) - a4)).toInt64)))))])) [0, 1, 2, 3, 4, 5, 6, 7, 8, 9, 11, 12, 13, 14, 15, 10] (by decide) rfl
      refine lv_istore (lv' := [(6, .int (nI (gL a1 (min a2 a3 + d / 365) - a4))), (5, .int (nI 0)), (0, .ref sb), (1, .ref h0), (2, .ref g0), (3, .ref ho), (4, .int (nI i))]) hx hb dL_law_195 hl (by decide) rfl (fun ls hl => ?_)
      refine lv_aload_n hx hb dL_law_197 rfl (lv_at hl 4 rfl) ?_
      have hPt := hP.sub (ws' := wM g0 g1 g2 g3 g4 cI cJ d r (d + 1) a1 (gL a1 (min a2 a3 + d / 365) - a4) 2 (k + 1) (dr + a4) pn pa pi 0 (va_up (va_up ga 0 a2) 1 a3) e2 (va_up b k (a4 * 10000)) (va_up rt k r)) [10, 11, 12, 13, 14] rfl
      refine nk_rd (W.runV (As := []) (rest := []) ⟨hx, hb, hml, hown, hts⟩ (c_X1_thrown l D g0 g1 g2 g3 g4 cI cJ d r (d + 1) a1 (gL a1 (min a2 a3 + d / 365) - a4) 2 (k + 1) (dr + a4) pn pa pi 0 (va_up (va_up ga 0 a2) 1 a3) e2 (va_up b k (a4 * 10000)) (va_up rt k r)) (cwV 0 hts gL_law_X1_thrown rfl rfl rfl (by decide +kernel) ⟨Nat.le_of_ble_eq_true rfl, Nat.le_of_ble_eq_true rfl⟩) ⟨nk_Pr.blind, va_recv hK hPt (ci := 1) (q0 := 0) rfl rfl, fun U hU hW => ⟨rfl, by rw [hU]; exact hPt, va_K.moved hW.alike hK⟩⟩ rfl rfl hl.1 rfl (lv_room (Nat.le_of_ble_eq_true rfl)) dL_law_198 ⟨by show cells + 1 + 0 ≤ 1051; omega, by show slots + 6 + 0 ≤ 9300; omega⟩) ?_
      refine W.eq (g2 := F0 m 201 ls [.int (nI 0)]) rfl ?_
      refine lv_iload hx hb dL_law_201 (lv_at hl 1 rfl) ?_
      refine nk_isame (tgt := 208) hx hb rfl dL_law_203 (by decide) ?_
      refine lv_iload hx hb dL_law_208 (lv_at hl 1 rfl) ?_
      refine nk_if_ne (tgt := 225) hx hb (by decide) dL_law_210 (by decide) (fun c9 => absurd c9 (by decide)) (fun _ => ?_)
      refine lv_aload_n hx hb dL_law_213 rfl (lv_at hl 5 rfl) ?_
      refine lv_iconst (v := nI 0) hx hb dL_law_214 (by decide +kernel) ?_
      refine va_lald hx hb hK hP 15 1 rfl rfl (vp_in_nI (by decide) (by decide)) dL_law_215 ?_
      refine nk_topl (y := (nI (gL a1 (min a2 a3 + d / 365) - a4)).toInt64) nk_out ?_
      refine lv_iload hx hb dL_law_216 (lv_at hl 0 rfl) ?_
      refine lv_i2l hx hb dL_law_218 rfl ?_
      refine nk_lsame (tgt := 225) hx hb rfl dL_law_219 dL_law_220 (by decide) ?_
      refine lv_goto (tgt := 877) hx hb dL_law_225 (by decide) ?_
      refine W.widen (k := cells + 1) (n := slots + 6) (by omega) (by omega) ?_
      have hg9 : gL a1 (min a2 a3 + d / 365) ≤ 5500000 := gL_le (by omega)
      obtain rfl : lc = 0 := x2
      obtain ⟨hk00, hp00, -, -⟩ := hI.2.2.1.2.1 rfl
      subst hk00
      subst hp00
      have hI2 := Inv_begin2 (a3 := a3) hI (by omega : a1 ≤ 10000000) (by omega : 55 ≤ a2 ∧ a2 ≤ 95) (by omega : 55 ≤ a3 ∧ a3 ≤ 95) hg9
      have hI3 := Inv_draw hI2 (a := a4) (by omega) (by decide) (by decide) (alive_up (a := 1) (v := 0) 2 (by decide) up_s)
      exact kk _ _ _ ⟨_, _, _, _, _, _, _, _, _, _, _, _, _, _, _, _, _, _, _, _, _, _, _, _, _, hI3, hP, hD⟩ hS (lv_sub hl [2, 3, 4, 5, 6] rfl)
  · have hP := hP.sub (ws' := wX h0 h1 h2 h3 h4 h5 h6 h7 h8 h9 cI cJ d r lc bg w rm k pn fa e1 am dd rt b pd pt tp ++ (wM g0 g1 g2 g3 g4 cI cJ d r gb w rm lc k dr pn pa pi th ga e2 b rt ++ [(ho, .inl (cJ, 1, .inr (.inl (og))))])) [6, 7, 8, 9, 10, 11, 12, 13, 14, 15, 0, 1, 2, 3, 4, 5] rfl
    have hD := hD.sub (ws' := wX h0 h1 h2 h3 h4 h5 h6 h7 h8 h9 cI cJ d r lc bg w rm k pn fa e1 am dd rt b pd pt tp ++ (wM g0 g1 g2 g3 g4 cI cJ d r gb w rm lc k dr pn pa pi th ga e2 b rt ++ [(ho, .inl (cJ, 1, .inr (.inl (og))))])) [6, 7, 8, 9, 10, 11, 12, 13, 14, 15, 0, 1, 2, 3, 4, 5] (by decide) rfl
    refine lv_istore (lv' := [(5, .int (nI 1)), (0, .ref sb), (1, .ref h0), (2, .ref g0), (3, .ref ho), (4, .int (nI i))]) hx hb dL_law_165 hl (by decide) rfl (fun ls hl => ?_)
    refine lv_aload_n hx hb dL_law_167 rfl (lv_at hl 3 rfl) ?_
    refine lv_aload_n hx hb dL_law_168 rfl (lv_at hl 1 rfl) ?_
    refine lv_iload hx hb dL_law_169 (lv_at hl 5 rfl) ?_
    refine lv_iconst (v := nI 1) hx hb dL_law_171 (by decide +kernel) ?_
    refine nk_iadd hx hb dL_law_172 ?_
    refine va_sld hx hb hX hbl hbA hS (vp_in_nI (by omega) (by omega)) dL_law_173 ?_
    refine nk_topi (y := q1) (by rw [nI_clamp (by omega)]; exact hq1) ?_
    refine lv_aload_n hx hb dL_law_174 rfl (lv_at hl 1 rfl) ?_
    refine lv_iload hx hb dL_law_175 (lv_at hl 5 rfl) ?_
    refine lv_iconst (v := nI 2) hx hb dL_law_177 (by decide +kernel) ?_
    refine nk_iadd hx hb dL_law_178 ?_
    refine va_sld hx hb hX hbl hbA hS (vp_in_nI (by omega) (by omega)) dL_law_179 ?_
    refine nk_topi (y := q2) (by rw [nI_clamp (by omega)]; exact hq2) ?_
    refine lv_aload_n hx hb dL_law_180 rfl (lv_at hl 1 rfl) ?_
    refine lv_iload hx hb dL_law_181 (lv_at hl 5 rfl) ?_
    refine lv_iconst (v := nI 3) hx hb dL_law_183 (by decide +kernel) ?_
    refine nk_iadd hx hb dL_law_184 ?_
    refine va_sld hx hb hX hbl hbA hS (vp_in_nI (by omega) (by omega)) dL_law_185 ?_
    refine nk_topi (y := q3) (by rw [nI_clamp (by omega)]; exact hq3) ?_
    refine lv_aload_n hx hb dL_law_186 rfl (lv_at hl 1 rfl) ?_
    refine lv_iload hx hb dL_law_187 (lv_at hl 5 rfl) ?_
    refine lv_iconst (v := nI 4) hx hb dL_law_189 (by decide +kernel) ?_
    refine nk_iadd hx hb dL_law_190 ?_
    refine va_sld hx hb hX hbl hbA hS (vp_in_nI (by omega) (by omega)) dL_law_191 ?_
    refine nk_topi (y := q4) (by rw [nI_clamp (by omega)]; exact hq4) ?_
    have hPm := hP.sub (ws' := wM g0 g1 g2 g3 g4 cI cJ d r gb w rm lc k dr pn pa pi th ga e2 b rt) [10, 11, 12, 13, 14] rfl
    have hDm := hD.sub (ws' := wM g0 g1 g2 g3 g4 cI cJ d r gb w rm lc k dr pn pa pi th ga e2 b rt) [10, 11, 12, 13, 14] (by decide) rfl
    refine nk_icall (wr := wX h0 h1 h2 h3 h4 h5 h6 h7 h8 h9 cI cJ d r lc bg w rm k pn fa e1 am dd rt b pd pt tp ++ [(ho, .inl (cJ, 1, .inr (.inl (og))))]) (va_runV (As := [.int q1, .int q2, .int q3, .int q4]) (rest := []) ⟨hx, hb, hml, hown, hts⟩ (c_X1_begin l D g0 g1 g2 g3 g4 cI cJ d r gb w rm lc k dr pn pa pi th ga e2 b rt H.size q1 q2 q3 q4 z1 z2 z3 z4 a1 a2 a3 a4 hzz1 hpp1 hzz2 hpp2 hzz3 hpp3 hzz4 hpp4 hgb2 hd he20 he21 hk0m he28) (cwV 4 hts gL_law_X1_begin rfl rfl rfl (by decide +kernel) ⟨Nat.le_of_ble_eq_true rfl, Nat.le_of_ble_eq_true rfl⟩) ⟨nk_Pw.blind, va_recv hK hPm (ci := 1) (q0 := 0) rfl rfl, fun U hU hW => ⟨rfl, by rw [hU], by rw [hU]; exact hPm, va_K.moved hW.alike hK, hDm.weaken (fun _ _ _ _ => trivial)⟩⟩ rfl rfl hl.1 rfl (lv_room (Nat.le_of_ble_eq_true rfl)) dL_law_192 ⟨by show cells + 1 + 0 ≤ 1051; omega, by show slots + 6 + 0 ≤ 9300; omega⟩) hP hD hS hA [10, 11, 12, 13, 14] [0, 1, 2, 3, 4, 5, 6, 7, 8, 9, 15] rfl rfl rfl (by decide) (fun r7 w1 H locs hw9 hP hD hS hk9 => ?_)
    try simp only [halE, hlsE, hmxE] at hw9
    rcases hw9 with ⟨y1, rfl⟩ | ⟨y1, (⟨y2, rfl⟩ | ⟨y2, y3, rfl⟩)⟩ | ⟨y1, y2, (⟨y3, y4, y5, rfl, rfl⟩ | ⟨y3, y4, y5, rfl, rfl⟩ | ⟨y3, y4, y5, rfl, rfl⟩ | ⟨y3, y4, y5, rfl, rfl⟩)⟩
    · have hP := hP.sub (ws' := wX h0 h1 h2 h3 h4 h5 h6 h7 h8 h9 cI cJ d r lc bg w rm k pn fa e1 am dd rt b pd pt tp ++ (wM g0 g1 g2 g3 g4 cI cJ d r gb w rm lc k dr pn pa pi 1 ga e2 b rt ++ [(ho, .inl (cJ, 1, .inr (.inl (og))))])) [0, 1, 2, 3, 4, 5, 6, 7, 8, 9, 11, 12, 13, 14, 15, 10] rfl
      have hD := hD.sub (ws' := wX h0 h1 h2 h3 h4 h5 h6 h7 h8 h9 cI cJ d r lc bg w rm k pn fa e1 am dd rt b pd pt tp ++ (wM g0 g1 g2 g3 g4 cI cJ d r gb w rm lc k dr pn pa pi 1 ga e2 b rt ++ [(ho, .inl (cJ, 1, .inr (.inl (og))))])) [0, 1, 2, 3, 4, 5, 6, 7, 8, 9, 11, 12, 13, 14, 15, 10] (by decide) rfl
      refine lv_istore (lv' := [(6, .int r7), (5, .int (nI 1)), (0, .ref sb), (1, .ref h0), (2, .ref g0), (3, .ref ho), (4, .int (nI i))]) hx hb dL_law_195 hl (by decide) rfl (fun ls hl => ?_)
      refine lv_aload_n hx hb dL_law_197 rfl (lv_at hl 4 rfl) ?_
      have hPt := hP.sub (ws' := wM g0 g1 g2 g3 g4 cI cJ d r gb w rm lc k dr pn pa pi 1 ga e2 b rt) [10, 11, 12, 13, 14] rfl
      refine nk_rd (W.runV (As := []) (rest := []) ⟨hx, hb, hml, hown, hts⟩ (c_X1_thrown l D g0 g1 g2 g3 g4 cI cJ d r gb w rm lc k dr pn pa pi 1 ga e2 b rt) (cwV 0 hts gL_law_X1_thrown rfl rfl rfl (by decide +kernel) ⟨Nat.le_of_ble_eq_true rfl, Nat.le_of_ble_eq_true rfl⟩) ⟨nk_Pr.blind, va_recv hK hPt (ci := 1) (q0 := 0) rfl rfl, fun U hU hW => ⟨rfl, by rw [hU]; exact hPt, va_K.moved hW.alike hK⟩⟩ rfl rfl hl.1 rfl (lv_room (Nat.le_of_ble_eq_true rfl)) dL_law_198 ⟨by show cells + 1 + 0 ≤ 1051; omega, by show slots + 6 + 0 ≤ 9300; omega⟩) ?_
      refine W.eq (g2 := F0 m 201 ls [.int (nI 1)]) rfl ?_
      refine lv_iload hx hb dL_law_201 (lv_at hl 1 rfl) ?_
      refine nk_isame (tgt := 208) hx hb rfl dL_law_203 (by decide) ?_
      refine lv_iload hx hb dL_law_208 (lv_at hl 1 rfl) ?_
      refine nk_if_ne (tgt := 225) hx hb (by decide) dL_law_210 (by decide) (fun _ => ?_) (fun c9 => absurd c9 (by decide))
      refine lv_goto (tgt := 877) hx hb dL_law_225 (by decide) ?_
      refine W.widen (k := cells + 1) (n := slots + 6) (by omega) (by omega) ?_
      exact kk _ _ _ ⟨_, _, _, _, _, _, _, _, _, _, _, _, _, _, _, _, _, _, _, _, _, _, _, _, _, hI, hP, hD⟩ hS (lv_sub hl [2, 3, 4, 5, 6] rfl)
    · exfalso; omega
    · exfalso; omega
    · exfalso; omega
    · exfalso; omega
    · exfalso; omega
    · exfalso; omega
  · have hP := hP.sub (ws' := wX h0 h1 h2 h3 h4 h5 h6 h7 h8 h9 cI cJ d r lc bg w rm k pn fa e1 am dd rt b pd pt tp ++ (wM g0 g1 g2 g3 g4 cI cJ d r gb w rm lc k dr pn pa pi th ga e2 b rt ++ [(ho, .inl (cJ, 1, .inr (.inl (og))))])) [6, 7, 8, 9, 10, 11, 12, 13, 14, 15, 0, 1, 2, 3, 4, 5] rfl
    have hD := hD.sub (ws' := wX h0 h1 h2 h3 h4 h5 h6 h7 h8 h9 cI cJ d r lc bg w rm k pn fa e1 am dd rt b pd pt tp ++ (wM g0 g1 g2 g3 g4 cI cJ d r gb w rm lc k dr pn pa pi th ga e2 b rt ++ [(ho, .inl (cJ, 1, .inr (.inl (og))))])) [6, 7, 8, 9, 10, 11, 12, 13, 14, 15, 0, 1, 2, 3, 4, 5] (by decide) rfl
    refine lv_istore (lv' := [(5, .int (nI 2)), (0, .ref sb), (1, .ref h0), (2, .ref g0), (3, .ref ho), (4, .int (nI i))]) hx hb dL_law_165 hl (by decide) rfl (fun ls hl => ?_)
    refine lv_aload_n hx hb dL_law_167 rfl (lv_at hl 3 rfl) ?_
    refine lv_aload_n hx hb dL_law_168 rfl (lv_at hl 1 rfl) ?_
    refine lv_iload hx hb dL_law_169 (lv_at hl 5 rfl) ?_
    refine lv_iconst (v := nI 1) hx hb dL_law_171 (by decide +kernel) ?_
    refine nk_iadd hx hb dL_law_172 ?_
    refine va_sld hx hb hX hbl hbA hS (vp_in_nI (by omega) (by omega)) dL_law_173 ?_
    refine nk_topi (y := q1) (by rw [nI_clamp (by omega)]; exact hq1) ?_
    refine lv_aload_n hx hb dL_law_174 rfl (lv_at hl 1 rfl) ?_
    refine lv_iload hx hb dL_law_175 (lv_at hl 5 rfl) ?_
    refine lv_iconst (v := nI 2) hx hb dL_law_177 (by decide +kernel) ?_
    refine nk_iadd hx hb dL_law_178 ?_
    refine va_sld hx hb hX hbl hbA hS (vp_in_nI (by omega) (by omega)) dL_law_179 ?_
    refine nk_topi (y := q2) (by rw [nI_clamp (by omega)]; exact hq2) ?_
    refine lv_aload_n hx hb dL_law_180 rfl (lv_at hl 1 rfl) ?_
    refine lv_iload hx hb dL_law_181 (lv_at hl 5 rfl) ?_
    refine lv_iconst (v := nI 3) hx hb dL_law_183 (by decide +kernel) ?_
    refine nk_iadd hx hb dL_law_184 ?_
    refine va_sld hx hb hX hbl hbA hS (vp_in_nI (by omega) (by omega)) dL_law_185 ?_
    refine nk_topi (y := q3) (by rw [nI_clamp (by omega)]; exact hq3) ?_
    refine lv_aload_n hx hb dL_law_186 rfl (lv_at hl 1 rfl) ?_
    refine lv_iload hx hb dL_law_187 (lv_at hl 5 rfl) ?_
    refine lv_iconst (v := nI 4) hx hb dL_law_189 (by decide +kernel) ?_
    refine nk_iadd hx hb dL_law_190 ?_
    refine va_sld hx hb hX hbl hbA hS (vp_in_nI (by omega) (by omega)) dL_law_191 ?_
    refine nk_topi (y := q4) (by rw [nI_clamp (by omega)]; exact hq4) ?_
    have hPm := hP.sub (ws' := wM g0 g1 g2 g3 g4 cI cJ d r gb w rm lc k dr pn pa pi th ga e2 b rt) [10, 11, 12, 13, 14] rfl
    have hDm := hD.sub (ws' := wM g0 g1 g2 g3 g4 cI cJ d r gb w rm lc k dr pn pa pi th ga e2 b rt) [10, 11, 12, 13, 14] (by decide) rfl
    refine nk_icall (wr := wX h0 h1 h2 h3 h4 h5 h6 h7 h8 h9 cI cJ d r lc bg w rm k pn fa e1 am dd rt b pd pt tp ++ [(ho, .inl (cJ, 1, .inr (.inl (og))))]) (va_runV (As := [.int q1, .int q2, .int q3, .int q4]) (rest := []) ⟨hx, hb, hml, hown, hts⟩ (c_X1_begin l D g0 g1 g2 g3 g4 cI cJ d r gb w rm lc k dr pn pa pi th ga e2 b rt H.size q1 q2 q3 q4 z1 z2 z3 z4 a1 a2 a3 a4 hzz1 hpp1 hzz2 hpp2 hzz3 hpp3 hzz4 hpp4 hgb2 hd he20 he21 hk0m he28) (cwV 4 hts gL_law_X1_begin rfl rfl rfl (by decide +kernel) ⟨Nat.le_of_ble_eq_true rfl, Nat.le_of_ble_eq_true rfl⟩) ⟨nk_Pw.blind, va_recv hK hPm (ci := 1) (q0 := 0) rfl rfl, fun U hU hW => ⟨rfl, by rw [hU], by rw [hU]; exact hPm, va_K.moved hW.alike hK, hDm.weaken (fun _ _ _ _ => trivial)⟩⟩ rfl rfl hl.1 rfl (lv_room (Nat.le_of_ble_eq_true rfl)) dL_law_192 ⟨by show cells + 1 + 0 ≤ 1051; omega, by show slots + 6 + 0 ≤ 9300; omega⟩) hP hD hS hA [10, 11, 12, 13, 14] [0, 1, 2, 3, 4, 5, 6, 7, 8, 9, 15] rfl rfl rfl (by decide) (fun r7 w1 H locs hw9 hP hD hS hk9 => ?_)
    try simp only [halE, hlsE, hmxE] at hw9
    rcases hw9 with ⟨y1, rfl⟩ | ⟨y1, (⟨y2, rfl⟩ | ⟨y2, y3, rfl⟩)⟩ | ⟨y1, y2, (⟨y3, y4, y5, rfl, rfl⟩ | ⟨y3, y4, y5, rfl, rfl⟩ | ⟨y3, y4, y5, rfl, rfl⟩ | ⟨y3, y4, y5, rfl, rfl⟩)⟩
    · exfalso; omega
    · have hP := hP.sub (ws' := wX h0 h1 h2 h3 h4 h5 h6 h7 h8 h9 cI cJ d r lc bg w rm k pn fa e1 am dd rt b pd pt tp ++ (wM g0 g1 g2 g3 g4 cI cJ d r gb w rm lc k dr pn pa pi 2 ga e2 b rt ++ [(ho, .inl (cJ, 1, .inr (.inl (og))))])) [0, 1, 2, 3, 4, 5, 6, 7, 8, 9, 11, 12, 13, 14, 15, 10] rfl
      have hD := hD.sub (ws' := wX h0 h1 h2 h3 h4 h5 h6 h7 h8 h9 cI cJ d r lc bg w rm k pn fa e1 am dd rt b pd pt tp ++ (wM g0 g1 g2 g3 g4 cI cJ d r gb w rm lc k dr pn pa pi 2 ga e2 b rt ++ [(ho, .inl (cJ, 1, .inr (.inl (og))))])) [0, 1, 2, 3, 4, 5, 6, 7, 8, 9, 11, 12, 13, 14, 15, 10] (by decide) rfl
      refine lv_istore (lv' := [(6, .int r7), (5, .int (nI 2)), (0, .ref sb), (1, .ref h0), (2, .ref g0), (3, .ref ho), (4, .int (nI i))]) hx hb dL_law_195 hl (by decide) rfl (fun ls hl => ?_)
      refine lv_aload_n hx hb dL_law_197 rfl (lv_at hl 4 rfl) ?_
      have hPt := hP.sub (ws' := wM g0 g1 g2 g3 g4 cI cJ d r gb w rm lc k dr pn pa pi 2 ga e2 b rt) [10, 11, 12, 13, 14] rfl
      refine nk_rd (W.runV (As := []) (rest := []) ⟨hx, hb, hml, hown, hts⟩ (c_X1_thrown l D g0 g1 g2 g3 g4 cI cJ d r gb w rm lc k dr pn pa pi 2 ga e2 b rt) (cwV 0 hts gL_law_X1_thrown rfl rfl rfl (by decide +kernel) ⟨Nat.le_of_ble_eq_true rfl, Nat.le_of_ble_eq_true rfl⟩) ⟨nk_Pr.blind, va_recv hK hPt (ci := 1) (q0 := 0) rfl rfl, fun U hU hW => ⟨rfl, by rw [hU]; exact hPt, va_K.moved hW.alike hK⟩⟩ rfl rfl hl.1 rfl (lv_room (Nat.le_of_ble_eq_true rfl)) dL_law_198 ⟨by show cells + 1 + 0 ≤ 1051; omega, by show slots + 6 + 0 ≤ 9300; omega⟩) ?_
      refine W.eq (g2 := F0 m 201 ls [.int (nI 2)]) rfl ?_
      refine lv_iload hx hb dL_law_201 (lv_at hl 1 rfl) ?_
      refine nk_isame (tgt := 208) hx hb rfl dL_law_203 (by decide) ?_
      refine lv_iload hx hb dL_law_208 (lv_at hl 1 rfl) ?_
      refine nk_if_ne (tgt := 225) hx hb (by decide) dL_law_210 (by decide) (fun _ => ?_) (fun c9 => absurd c9 (by decide))
      refine lv_goto (tgt := 877) hx hb dL_law_225 (by decide) ?_
      refine W.widen (k := cells + 1) (n := slots + 6) (by omega) (by omega) ?_
      exact kk _ _ _ ⟨_, _, _, _, _, _, _, _, _, _, _, _, _, _, _, _, _, _, _, _, _, _, _, _, _, hI, hP, hD⟩ hS (lv_sub hl [2, 3, 4, 5, 6] rfl)
    · have hP := hP.sub (ws' := wX h0 h1 h2 h3 h4 h5 h6 h7 h8 h9 cI cJ d r lc bg w rm k pn fa e1 am dd rt b pd pt tp ++ (wM g0 g1 g2 g3 g4 cI cJ d r gb w rm 0 k dr pn pa pi 2 (va_up (va_up ga 0 a2) 1 a3) e2 b rt ++ [(ho, .inl (cJ, 1, .inr (.inl (og))))])) [0, 1, 2, 3, 4, 5, 6, 7, 8, 9, 11, 12, 13, 14, 15, 10] rfl
      have hD := hD.sub (ws' := wX h0 h1 h2 h3 h4 h5 h6 h7 h8 h9 cI cJ d r lc bg w rm k pn fa e1 am dd rt b pd pt tp ++ (wM g0 g1 g2 g3 g4 cI cJ d r gb w rm 0 k dr pn pa pi 2 (va_up (va_up ga 0 a2) 1 a3) e2 b rt ++ [(ho, .inl (cJ, 1, .inr (.inl (og))))])) [0, 1, 2, 3, 4, 5, 6, 7, 8, 9, 11, 12, 13, 14, 15, 10] (by decide) rfl
      refine lv_istore (lv' := [(6, .int r7), (5, .int (nI 2)), (0, .ref sb), (1, .ref h0), (2, .ref g0), (3, .ref ho), (4, .int (nI i))]) hx hb dL_law_195 hl (by decide) rfl (fun ls hl => ?_)
      refine lv_aload_n hx hb dL_law_197 rfl (lv_at hl 4 rfl) ?_
      have hPt := hP.sub (ws' := wM g0 g1 g2 g3 g4 cI cJ d r gb w rm 0 k dr pn pa pi 2 (va_up (va_up ga 0 a2) 1 a3) e2 b rt) [10, 11, 12, 13, 14] rfl
      refine nk_rd (W.runV (As := []) (rest := []) ⟨hx, hb, hml, hown, hts⟩ (c_X1_thrown l D g0 g1 g2 g3 g4 cI cJ d r gb w rm 0 k dr pn pa pi 2 (va_up (va_up ga 0 a2) 1 a3) e2 b rt) (cwV 0 hts gL_law_X1_thrown rfl rfl rfl (by decide +kernel) ⟨Nat.le_of_ble_eq_true rfl, Nat.le_of_ble_eq_true rfl⟩) ⟨nk_Pr.blind, va_recv hK hPt (ci := 1) (q0 := 0) rfl rfl, fun U hU hW => ⟨rfl, by rw [hU]; exact hPt, va_K.moved hW.alike hK⟩⟩ rfl rfl hl.1 rfl (lv_room (Nat.le_of_ble_eq_true rfl)) dL_law_198 ⟨by show cells + 1 + 0 ≤ 1051; omega, by show slots + 6 + 0 ≤ 9300; omega⟩) ?_
      refine W.eq (g2 := F0 m 201 ls [.int (nI 2)]) rfl ?_
      refine lv_iload hx hb dL_law_201 (lv_at hl 1 rfl) ?_
      refine nk_isame (tgt := 208) hx hb rfl dL_law_203 (by decide) ?_
      refine lv_iload hx hb dL_law_208 (lv_at hl 1 rfl) ?_
      refine nk_if_ne (tgt := 225) hx hb (by decide) dL_law_210 (by decide) (fun _ => ?_) (fun c9 => absurd c9 (by decide))
      refine lv_goto (tgt := 877) hx hb dL_law_225 (by decide) ?_
      refine W.widen (k := cells + 1) (n := slots + 6) (by omega) (by omega) ?_
      obtain rfl : lc = 0 := by omega
      exact kk _ _ _ ⟨_, _, _, _, _, _, _, _, _, _, _, _, _, _, _, _, _, _, _, _, _, _, _, _, _, Inv_ga hI, hP, hD⟩ hS (lv_sub hl [2, 3, 4, 5, 6] rfl)
    · exfalso; omega
    · exfalso; omega
    · exfalso; omega
    · exfalso; omega
