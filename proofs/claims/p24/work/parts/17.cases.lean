-- ===== end of PART A; then your names; then what follows =====
/-! THE CLAIM OUT OF ONE WALK OF THE LAW'S BODY. Your part is whole_start (and what it stands on); all else here is the same for every law, but numbers. -/
def R_law : String := "EquityReleaseLaw"
def lw_P (b : Addr) (xs : List Int32) (args : Array Value) (s : State) : Prop := args = #[.ref b] ∧ s.IntsAt b xs ∧ xs.length ≤ 260 ∧ (Jvm.Cond.and given_1 narrow_1).before args s = true
def lw_Q (_ : Array Value) (s : State) (o : Outcome) (t : State) : Prop := o = .returned (some (.int 1)) ∧ Framed s o t [] 125 1879
def lw_Z (below : List Frame) (a : Array Value) (s : State) : State → Prop := fun t => ∃ o, t.status = .running ∧ Ended t below o ∧ lw_Q a s o t
/-- the law's own end, with 1 on the stack, nothing written that was there before, its room as the claim has it -/
theorem lw_ret {p : Program} {l : Launch} {e : Env} {s : State} {m : MethodId} {below : List Frame} {meth : Method} {c : Code} {b : Nat} (hx : p.tables.exec = Jvm.exec) (hb : c.code = code) (hr : meth.sig.returnType = ret) (hlocks : meth.locks = false) {pc : Nat} {H : Heap} {ls : Array Slot} (hdg : decode code pc = .ok (.ireturn, 1)) : W p l e room_1 s m #[Value.ref b] below meth c H [] 125 1879 (lw_Z below #[Value.ref b] s) (F0 m pc ls [.int 1]) := by
  intro T hT X
  obtain ⟨fs, hret, hrun, hended, hW, hframe⟩ := X.leave (v := some (.int 1)) (hlocks := hlocks) (fun h => by rw [hr] at h; cases h)
  have hmeth' : T.vm.method? m = some meth := X.method'
  refine ⟨T.setFrames fs, ?_, .returned (some (.int 1)), hrun, hended, rfl, ⟨_, rfl⟩, hW, hframe⟩
  jvm_step X.here [X.here.top, hx, hb, hdg, hmeth', hr, ret, narrow_b1]
  (try refine ⟨rfl, ?_⟩); (try refine ⟨rfl, ?_⟩)
  first | (intro acts; rw [hret _ acts rfl rfl rfl]) | rw [hret _ _ rfl rfl rfl]
  exact Steps.refl _
/-- what holds at the law's entry: the machine, the code, the tables' words (any of lw_tbl by 'hts w (by decide +kernel)'), the script of L ints xs at the cell b, what the Statement gives of the start (any of its parts by flat_of_before) -/
def lw_At (p : Program) (s : State) (m : MethodId) (meth : Method) (c : Code) (b L : Nat) (xs : Nat → Int32) : Prop :=
  p.tables.exec = Jvm.exec ∧ c.code = code ∧ meth.sig.returnType = ret ∧ c.maxLocals = 15 ∧ s.vm.findClass R_law = some m.cls ∧ (∀ w ∈ lw_tbl, w.before #[Value.ref b] s = true) ∧ va_X b L xs s s.heap ∧ b < s.heap.size ∧ meth.locks = false ∧ (Jvm.Cond.and given_1 narrow_1).before #[Value.ref b] s = true
/-! the law's branches, one by one: up to where they meet -/
def nk_St (D : va_G) (A : Nat → Prop) (h0 h1 h2 h3 h4 h5 h6 h7 h8 h9 : Nat) (cI cJ : ClassId) (B E : Nat) (H : Heap) : Prop :=
  ∃ (d r lc bg w rm k pn : Nat) (fa e1 am dd rt b pd pt tp : Nat → Nat) (gb dr pa pi : Nat) (ga e2 : Nat → Nat), Inv d r lc bg w rm k pn fa e1 am dd rt b pd pt tp gb dr pa pi ga e2 ∧ (lc = 0 → w = 0) ∧ ((0 < lc ↔ B = 1) ∧ B ≤ 1 ∧ E < 4 ∧ (0 < lc → enOK E lc e1)) ∧ va_P D vwCl (wX h0 h1 h2 h3 h4 h5 h6 h7 h8 h9 cI cJ d r lc bg w rm k pn fa e1 am dd rt b pd pt tp) H ∧ va_D A (wX h0 h1 h2 h3 h4 h5 h6 h7 h8 h9 cI cJ d r lc bg w rm k pn fa e1 am dd rt b pd pt tp)
theorem en_one {lc : Nat} {e1 : Nat → Nat} (h : lc = 0) : enOK 2 (lc + 1) (va_up e1 lc 0) := by
  subst h
  refine ⟨by decide, ⟨fun _ => up_s, fun _ => rfl⟩, ⟨fun q => absurd q (by decide), fun q => absurd q.1 (by decide)⟩⟩
theorem en_two {lc : Nat} {e1 : Nat → Nat} (h : lc = 0) : enOK 0 (lc + 1 + 1) (va_up (va_up e1 lc 0) (lc + 1) 0) := by
  subst h
  refine ⟨by decide, ⟨fun _ => ?_, fun _ => rfl⟩, ⟨fun _ => ⟨by decide, up_s⟩, fun _ => rfl⟩⟩
  show va_up (va_up e1 0 0) 1 0 0 = 0
  rw [up_n (by decide), up_s]
set_option maxHeartbeats 8000000 in
set_option maxRecDepth 100000 in
theorem lc_setRate {p : Program} {l : Launch} {e : Env} {s : State} {m : MethodId} {below : List Frame} {meth : Method} {c : Code} {sb L : Nat} {xs : Nat → Int32} {D : va_G} {h0 h1 h2 h3 h4 h5 h6 h7 h8 h9 : Nat} {cI cJ : ClassId} {H : Heap} {locs : List Loc} {cells slots : Nat} {Q : State → Prop} {ls : Array Slot} {A : Nat → Prop} {B E T n q : Nat} {v : Int32}
    (C0 : lw_At p s m meth c sb L xs) (hfl : l.stackTraces = false) (hK : va_K D vwCl (tX cI cJ) s) (hA : ∀ q : Nat, s.heap.size ≤ q → A q) (hbA : ¬ A sb) (hZ : nk_Z A s s.heap) (hc9 : cells + 2 ≤ 125) (hs9 : slots + 12 ≤ 1879) (hL : L ≤ 260) (hSt : nk_St D A h0 h1 h2 h3 h4 h5 h6 h7 h8 h9 cI cJ B E H) (hS : va_S A s.heap H locs) (hl : lv_has ls 15 [(0, .ref sb), (1, .ref h0), (2, .int (nI B)), (3, .int (nI E)), (4, .int (nI 1)), (5, .int (nI T)), (6, .int (nI n)), (7, .int v), (8, .int (nI q))]) (hT : T ≤ 54) (hn : n < T) 
    (kk : ∀ (H1 : Heap) (locs1 : List Loc) (ls1 : Array Slot) (B1 E1 : Nat), nk_St D A h0 h1 h2 h3 h4 h5 h6 h7 h8 h9 cI cJ B1 E1 H1 → va_S A s.heap H1 locs1 → lv_has ls1 15 [(0, .ref sb), (1, .ref h0), (2, .int (nI B1)), (3, .int (nI E1)), (4, .int (nI 1)), (5, .int (nI T)), (6, .int (nI n))] → W p l e room_1 s m #[Value.ref sb] below meth c H1 locs1 (cells + 2) (slots + 12) Q (F0 m 583 ls1 [])) : W p l e room_1 s m #[Value.ref sb] below meth c H locs cells slots Q (F0 m 422 ls []) := by
  obtain ⟨hx, hb, hr, hml, hown, hts0, hX, hbl, hlocks, hgv⟩ := id C0
  have hts : ∀ w ∈ wsL_law, w.before #[Value.ref sb] s = true := fun w h => hts0 w (wsL_law_in w h)
  have hown : s.vm.findClass RL = some m.cls := hown
  obtain ⟨d, r, lc, bg, w, rm, k, pn, fa, e1, am, dd, rt, b, pd, pt, tp, gb, dr, pa, pi, ga, e2, hI, hw0, hbe, hP, hD⟩ := hSt
  obtain ⟨hlc, hd, hk, hpn, hbg, hw, hrm, he, hed, hfa, ham, hpd, hpd2, hpt, hbs, hb9, hrt, hdd, hroll, hh1, hh2, hh3, htp, hsa, hk0, he2, he2d, hga, hgb, hgb2, hpi, hdr, hpa1, he20, he21, hk0m, he28, hgbz, halE, hmxE, hlsE⟩ := Inv_f hI
  have hbs9 := hbs
  have hbs : sm _ _ < 4611686018427387904 := Nat.lt_trans hbs9 (by decide)
  refine lv_iload hx hb dL_law_422 (lv_at hl 7 rfl) ?_
  refine lv_sipush (v := nI 2001) hx hb dL_law_424 (by decide +kernel) ?_
  refine nk_rd (W.runS (As := [.int v, .int (nI 2001)]) (rest := []) ⟨hx, hb, hml, hown, hts⟩ (c_L_low l v 2001 (by omega) (by omega)) (va_cwS 2 hts gL_law_L_low rfl rfl rfl (by decide +kernel) ⟨Nat.le_of_ble_eq_true rfl, Nat.le_of_ble_eq_true rfl⟩) ⟨nk_P0.blind, fun U hU hW => ⟨rfl, trivial⟩⟩ rfl rfl hl.1 rfl (lv_room (Nat.le_of_ble_eq_true rfl)) dL_law_427 ⟨by show cells + 0 ≤ 125; omega, by show slots + 0 ≤ 1879; omega⟩) ?_
  refine W.eq (g2 := F0 m 430 ls [.int (nI (lwV v 2001))]) rfl ?_
  have hlw2001 := lwV_lt (x := v) (n := 2001) (by decide)
  obtain ⟨a1, ha1⟩ : ∃ x : Nat, x = lwV v 2001 := ⟨_, rfl⟩
  refine nk_topi (y := nI a1) (by rw [ha1]) ?_
  refine lv_istore (lv' := [(9, .int (nI a1)), (0, .ref sb), (1, .ref h0), (2, .int (nI B)), (3, .int (nI E)), (4, .int (nI 1)), (5, .int (nI T)), (6, .int (nI n)), (7, .int v), (8, .int (nI q))]) hx hb dL_law_430 hl (by decide) rfl (fun ls hl => ?_)
  refine lv_aload_n hx hb dL_law_432 rfl (lv_at hl 2 rfl) ?_
  refine lv_iload hx hb dL_law_433 (lv_at hl 0 rfl) ?_
  have hZH := hZ.kept hS.2.1
  have hFc := va_free (wc := wX h0 h1 h2 h3 h4 h5 h6 h7 h8 h9 cI cJ d r lc bg w rm k pn fa e1 am dd rt b pd pt tp) hD hS hA [0, 1, 2, 3, 4, 5, 6, 7, 8, 9] rfl
  refine nk_icallx (wr := []) (mc := 1) (ms := 6) (vx_runV (As := [.int (nI a1)]) (rest := []) ⟨hx, hb, hml, hown, hts⟩ (c_X0_setRate l hfl D h0 h1 h2 h3 h4 h5 h6 h7 h8 h9 cI cJ d r lc bg w rm k pn fa e1 am dd rt b pd pt tp H.size (nI a1) ((a1 : Nat) : Int) a1 (nI_toInt (by omega)) (fun _ => ⟨rfl, by omega⟩)) (cwV 1 hts gL_law_X0_setRate rfl rfl rfl (by decide +kernel) ⟨Nat.le_of_ble_eq_true rfl, Nat.le_of_ble_eq_true rfl⟩) ⟨nk_Px.blind, va_recv hK hP (ci := 0) (q0 := 0) rfl rfl, fun U hU hW => ⟨rfl, by rw [hU], by rw [hU]; exact hP, va_K.moved hW.alike hK, hD.weaken (fun _ _ _ _ => trivial), by rw [hU]; exact nk_Z.go hZH hW (fun q h => hFc q h)⟩⟩ rfl rfl hl.1 rfl (lv_room (Nat.le_of_ble_eq_true rfl)) dL_law_435 ⟨by show cells + 1 ≤ 125; omega, by show slots + 6 ≤ 1879; omega⟩) hP hD hS hA [0, 1, 2, 3, 4, 5, 6, 7, 8, 9] [] rfl rfl rfl (by decide) (fun E9 ce q9 H9 locs9 hE hz9 hk9 hP9 hS9 hce hcv hcl => ?_) (fun r435 w1 H locs hw435 hP hD hS hk9 => ?_)
  · exfalso; have h9 := hE.2; omega
  rcases hw435 with ⟨x1, rfl, rfl⟩
  · have hP : va_P D vwCl (wX h0 h1 h2 h3 h4 h5 h6 h7 h8 h9 cI cJ d a1 lc bg w rm k pn fa e1 am dd rt b pd pt tp) H := hP
    have hD : va_D A (wX h0 h1 h2 h3 h4 h5 h6 h7 h8 h9 cI cJ d a1 lc bg w rm k pn fa e1 am dd rt b pd pt tp) := hD
    have hI2 := Inv_setRate (v := a1) hI (by omega)
    refine lv_pop hx hb dL_law_438 rfl ?_
    refine lv_aload_n hx hb dL_law_439 rfl (lv_at hl 2 rfl) ?_
    refine lv_iload hx hb dL_law_440 (lv_at hl 0 rfl) ?_
    have hZH := hZ.kept hS.2.1
    have hFc := va_free (wc := wX h0 h1 h2 h3 h4 h5 h6 h7 h8 h9 cI cJ d a1 lc bg w rm k pn fa e1 am dd rt b pd pt tp) hD hS hA [0, 1, 2, 3, 4, 5, 6, 7, 8, 9] rfl
    refine nk_icallx (wr := []) (mc := 1) (ms := 6) (vx_runV (As := [.int (nI a1)]) (rest := []) ⟨hx, hb, hml, hown, hts⟩ (c_X0_setRate l hfl D h0 h1 h2 h3 h4 h5 h6 h7 h8 h9 cI cJ d a1 lc bg w rm k pn fa e1 am dd rt b pd pt tp H.size (nI a1) ((a1 : Nat) : Int) a1 (nI_toInt (by omega)) (fun _ => ⟨rfl, by omega⟩)) (cwV 1 hts gL_law_X0_setRate rfl rfl rfl (by decide +kernel) ⟨Nat.le_of_ble_eq_true rfl, Nat.le_of_ble_eq_true rfl⟩) ⟨nk_Px.blind, va_recv hK hP (ci := 0) (q0 := 0) rfl rfl, fun U hU hW => ⟨rfl, by rw [hU], by rw [hU]; exact hP, va_K.moved hW.alike hK, hD.weaken (fun _ _ _ _ => trivial), by rw [hU]; exact nk_Z.go hZH hW (fun q h => hFc q h)⟩⟩ rfl rfl hl.1 rfl (lv_room (Nat.le_of_ble_eq_true rfl)) dL_law_442 ⟨by show cells + 1 + 1 ≤ 125; omega, by show slots + 6 + 6 ≤ 1879; omega⟩) hP hD hS hA [0, 1, 2, 3, 4, 5, 6, 7, 8, 9] [] rfl rfl rfl (by decide) (fun E9 ce q9 H9 locs9 hE hz9 hk9 hP9 hS9 hce hcv hcl => ?_) (fun r442 w1 H locs hw442 hP hD hS hk9 => ?_)
    · exfalso; have h9 := hE.2; omega
    rcases hw442 with ⟨y1, rfl, rfl⟩
    · have hP : va_P D vwCl (wX h0 h1 h2 h3 h4 h5 h6 h7 h8 h9 cI cJ d a1 lc bg w rm k pn fa e1 am dd rt b pd pt tp) H := hP
      have hD : va_D A (wX h0 h1 h2 h3 h4 h5 h6 h7 h8 h9 cI cJ d a1 lc bg w rm k pn fa e1 am dd rt b pd pt tp) := hD
      refine lv_iload hx hb dL_law_445 (lv_at hl 0 rfl) ?_
      refine nk_icmp_ne (tgt := 454) hx hb (by omega) (by omega) dL_law_447 (by decide) (fun c447 => ?_) (fun c447 => ?_)
      · exfalso; omega
      · refine lv_iconst (v := nI 1) hx hb dL_law_450 (by decide +kernel) ?_
        refine lv_goto (tgt := 455) hx hb dL_law_451 (by decide) ?_
        refine lv_istore (lv' := [(4, .int (nI 1)), (9, .int (nI a1)), (0, .ref sb), (1, .ref h0), (2, .int (nI B)), (3, .int (nI E)), (5, .int (nI T)), (6, .int (nI n)), (7, .int v), (8, .int (nI q))]) hx hb dL_law_455 hl (by decide) rfl (fun ls hl => ?_)
        refine lv_goto (tgt := 583) hx hb dL_law_457 (by decide) ?_
        refine W.widen (k := cells + 2) (n := slots + 12) (by omega) (by omega) ?_
        exact kk _ _ _ B E ⟨_, _, _, _, _, _, _, _, _, _, _, _, _, _, _, _, _, _, _, _, _, _, _, hI2, hw0, hbe, hP, hD⟩ hS (lv_sub hl [2, 3, 4, 5, 0, 6, 7] rfl)
set_option maxHeartbeats 8000000 in
set_option maxRecDepth 100000 in
theorem lc_pass {p : Program} {l : Launch} {e : Env} {s : State} {m : MethodId} {below : List Frame} {meth : Method} {c : Code} {sb L : Nat} {xs : Nat → Int32} {D : va_G} {h0 h1 h2 h3 h4 h5 h6 h7 h8 h9 : Nat} {cI cJ : ClassId} {H : Heap} {locs : List Loc} {cells slots : Nat} {Q : State → Prop} {ls : Array Slot} {A : Nat → Prop} {B E T n q : Nat} {v : Int32}
    (C0 : lw_At p s m meth c sb L xs) (hfl : l.stackTraces = false) (hK : va_K D vwCl (tX cI cJ) s) (hA : ∀ q : Nat, s.heap.size ≤ q → A q) (hbA : ¬ A sb) (hZ : nk_Z A s s.heap) (hc9 : cells + 2 ≤ 125) (hs9 : slots + 12 ≤ 1879) (hL : L ≤ 260) (hSt : nk_St D A h0 h1 h2 h3 h4 h5 h6 h7 h8 h9 cI cJ B E H) (hS : va_S A s.heap H locs) (hl : lv_has ls 15 [(0, .ref sb), (1, .ref h0), (2, .int (nI B)), (3, .int (nI E)), (4, .int (nI 1)), (5, .int (nI T)), (6, .int (nI n)), (7, .int v), (8, .int (nI q))]) (hT : T ≤ 54) (hn : n < T) 
    (kk : ∀ (H1 : Heap) (locs1 : List Loc) (ls1 : Array Slot) (B1 E1 : Nat), nk_St D A h0 h1 h2 h3 h4 h5 h6 h7 h8 h9 cI cJ B1 E1 H1 → va_S A s.heap H1 locs1 → lv_has ls1 15 [(0, .ref sb), (1, .ref h0), (2, .int (nI B1)), (3, .int (nI E1)), (4, .int (nI 1)), (5, .int (nI T)), (6, .int (nI n))] → W p l e room_1 s m #[Value.ref sb] below meth c H1 locs1 (cells + 2) (slots + 12) Q (F0 m 583 ls1 [])) : W p l e room_1 s m #[Value.ref sb] below meth c H locs cells slots Q (F0 m 460 ls []) := by
  obtain ⟨hx, hb, hr, hml, hown, hts0, hX, hbl, hlocks, hgv⟩ := id C0
  have hts : ∀ w ∈ wsL_law, w.before #[Value.ref sb] s = true := fun w h => hts0 w (wsL_law_in w h)
  have hown : s.vm.findClass RL = some m.cls := hown
  obtain ⟨d, r, lc, bg, w, rm, k, pn, fa, e1, am, dd, rt, b, pd, pt, tp, gb, dr, pa, pi, ga, e2, hI, hw0, hbe, hP, hD⟩ := hSt
  obtain ⟨hlc, hd, hk, hpn, hbg, hw, hrm, he, hed, hfa, ham, hpd, hpd2, hpt, hbs, hb9, hrt, hdd, hroll, hh1, hh2, hh3, htp, hsa, hk0, he2, he2d, hga, hgb, hgb2, hpi, hdr, hpa1, he20, he21, hk0m, he28, hgbz, halE, hmxE, hlsE⟩ := Inv_f hI
  have hbs9 := hbs
  have hbs : sm _ _ < 4611686018427387904 := Nat.lt_trans hbs9 (by decide)
  have hD9 : ceilA (sm b k) < 200000000000000 := by unfold ceilA; omega
  refine lv_iconst (v := nI 1) hx hb dL_law_460 (by decide +kernel) ?_
  refine lv_iload hx hb dL_law_461 (lv_at hl 7 rfl) ?_
  refine lv_iload hx hb dL_law_463 (lv_at hl 7 rfl) ?_
  refine lv_bipush (v := nI 9) hx hb dL_law_465 (by decide +kernel) ?_
  refine lv_ishr hx hb dL_law_467 ?_
  refine lv_iconst (v := nI 3) hx hb dL_law_468 (by decide +kernel) ?_
  refine nk_rd (W.runS (As := [.int (v >>> (nI 9 &&& 31)), .int (nI 3)]) (rest := [.int v, .int (nI 1)]) ⟨hx, hb, hml, hown, hts⟩ (c_L_low l (v >>> (nI 9 &&& 31)) 3 (by omega) (by omega)) (va_cwS 2 hts gL_law_L_low rfl rfl rfl (by decide +kernel) ⟨Nat.le_of_ble_eq_true rfl, Nat.le_of_ble_eq_true rfl⟩) ⟨nk_P0.blind, fun U hU hW => ⟨rfl, trivial⟩⟩ rfl rfl hl.1 rfl (lv_room (Nat.le_of_ble_eq_true rfl)) dL_law_469 ⟨by show cells + 0 ≤ 125; omega, by show slots + 0 ≤ 1879; omega⟩) ?_
  refine W.eq (g2 := F0 m 472 ls [.int (nI (lwV (v >>> (nI 9 &&& 31)) 3)), .int v, .int (nI 1)]) rfl ?_
  have kj483 : ∀ (n9 : Nat), (0 < n9 ∧ n9 ≤ 900) → W p l e room_1 s m #[Value.ref sb] below meth c H locs (cells) (slots) Q (F0 m 483 ls [.int (nI n9), .int v, .int (nI 1)]) := by
    intro n9 hn9
    refine nk_rd (W.runS (As := [.int v, .int (nI n9)]) (rest := [.int (nI 1)]) ⟨hx, hb, hml, hown, hts⟩ (c_L_low l v n9 (by omega) (by omega)) (va_cwS 2 hts gL_law_L_low rfl rfl rfl (by decide +kernel) ⟨Nat.le_of_ble_eq_true rfl, Nat.le_of_ble_eq_true rfl⟩) ⟨nk_P0.blind, fun U hU hW => ⟨rfl, trivial⟩⟩ rfl rfl hl.1 rfl (lv_room (Nat.le_of_ble_eq_true rfl)) dL_law_483 ⟨by show cells + 0 ≤ 125; omega, by show slots + 0 ≤ 1879; omega⟩) ?_
    refine W.eq (g2 := F0 m 486 ls [.int (nI (lwV v n9)), .int (nI 1)]) rfl ?_
    refine nk_iadd hx hb dL_law_486 ?_
    have hlw := lwV_lt (x := v) (n := n9) hn9.1
    obtain ⟨a1, ha1⟩ : ∃ x : Nat, x = 1 + lwV v n9 := ⟨_, rfl⟩
    refine nk_topi (y := nI a1) (by rw [ha1]) ?_
    refine lv_istore (lv' := [(9, .int (nI a1)), (0, .ref sb), (1, .ref h0), (2, .int (nI B)), (3, .int (nI E)), (4, .int (nI 1)), (5, .int (nI T)), (6, .int (nI n)), (7, .int v), (8, .int (nI q))]) hx hb dL_law_487 hl (by decide) rfl (fun ls hl => ?_)
    refine lv_aload_n hx hb dL_law_489 rfl (lv_at hl 2 rfl) ?_
    refine nk_rd (W.runV (As := []) (rest := []) ⟨hx, hb, hml, hown, hts⟩ (c_X0_day l D h0 h1 h2 h3 h4 h5 h6 h7 h8 h9 cI cJ d r lc bg w rm k pn fa e1 am dd rt b pd pt tp) (cwV 0 hts gL_law_X0_day rfl rfl rfl (by decide +kernel) ⟨Nat.le_of_ble_eq_true rfl, Nat.le_of_ble_eq_true rfl⟩) ⟨nk_Pr.blind, va_recv hK hP (ci := 0) (q0 := 0) rfl rfl, fun U hU hW => ⟨rfl, by rw [hU]; exact hP, va_K.moved hW.alike hK⟩⟩ rfl rfl hl.1 rfl (lv_room (Nat.le_of_ble_eq_true rfl)) dL_law_490 ⟨by show cells + 0 ≤ 125; omega, by show slots + 0 ≤ 1879; omega⟩) ?_
    refine W.eq (g2 := F0 m 493 ls [.int (nI d)]) rfl ?_
    refine lv_istore (lv' := [(10, .int (nI d)), (9, .int (nI a1)), (0, .ref sb), (1, .ref h0), (2, .int (nI B)), (3, .int (nI E)), (4, .int (nI 1)), (5, .int (nI T)), (6, .int (nI n)), (7, .int v), (8, .int (nI q))]) hx hb dL_law_493 hl (by decide) rfl (fun ls hl => ?_)
    refine lv_aload_n hx hb dL_law_495 rfl (lv_at hl 3 rfl) ?_
    refine nk_rd (W.runV (As := []) (rest := []) ⟨hx, hb, hml, hown, hts⟩ (c_X0_debt l D h0 h1 h2 h3 h4 h5 h6 h7 h8 h9 cI cJ d r lc bg w rm k pn fa e1 am dd rt b pd pt tp hk hbs) (cwV 0 hts gL_law_X0_debt rfl rfl rfl (by decide +kernel) ⟨Nat.le_of_ble_eq_true rfl, Nat.le_of_ble_eq_true rfl⟩) ⟨nk_Pr.blind, va_recv hK hP (ci := 0) (q0 := 0) rfl rfl, fun U hU hW => ⟨rfl, by rw [hU]; exact hP, va_K.moved hW.alike hK⟩⟩ rfl rfl hl.1 rfl (lv_room (Nat.le_of_ble_eq_true rfl)) dL_law_496 ⟨by show cells + 0 ≤ 125; omega, by show slots + 0 ≤ 1879; omega⟩) ?_
    refine W.eq (g2 := F0 m 499 ls [.long (lN (ceilA (sm b k)))]) rfl ?_
    refine lv_lstore (lv' := [(11, .long (lN (ceilA (sm b k)))), (10, .int (nI d)), (9, .int (nI a1)), (0, .ref sb), (1, .ref h0), (2, .int (nI B)), (3, .int (nI E)), (4, .int (nI 1)), (5, .int (nI T)), (6, .int (nI n)), (7, .int v), (8, .int (nI q))]) hx hb dL_law_499 hl (by decide) rfl (fun ls hl => ?_)
    refine lv_aload_n hx hb dL_law_501 rfl (lv_at hl 4 rfl) ?_
    refine nk_rd (W.runV (As := []) (rest := []) ⟨hx, hb, hml, hown, hts⟩ (c_X0_hasEnded l D h0 h1 h2 h3 h4 h5 h6 h7 h8 h9 cI cJ d r lc bg w rm k pn fa e1 am dd rt b pd pt tp hlc he) (cwV 0 hts gL_law_X0_hasEnded rfl rfl rfl (by decide +kernel) ⟨Nat.le_of_ble_eq_true rfl, Nat.le_of_ble_eq_true rfl⟩) ⟨nk_Pr.blind, va_recv hK hP (ci := 0) (q0 := 0) rfl rfl, fun U hU hW => ⟨rfl, by rw [hU]; exact hP, va_K.moved hW.alike hK⟩⟩ rfl rfl hl.1 rfl (lv_room (Nat.le_of_ble_eq_true rfl)) dL_law_502 ⟨by show cells + 0 ≤ 125; omega, by show slots + 0 ≤ 1879; omega⟩) ?_
    refine W.eq (g2 := F0 m 505 ls [.int (nI (if 0 < lc ∧ alive e1 lc = 0 then 1 else 0))]) rfl ?_
    refine lv_istore (lv' := [(13, .int (nI (if 0 < lc ∧ alive e1 lc = 0 then 1 else 0))), (11, .long (lN (ceilA (sm b k)))), (10, .int (nI d)), (9, .int (nI a1)), (0, .ref sb), (1, .ref h0), (2, .int (nI B)), (3, .int (nI E)), (4, .int (nI 1)), (5, .int (nI T)), (6, .int (nI n)), (7, .int v), (8, .int (nI q))]) hx hb dL_law_505 hl (by decide) rfl (fun ls hl => ?_)
    refine lv_aload_n hx hb dL_law_507 rfl (lv_at hl 5 rfl) ?_
    refine lv_iload hx hb dL_law_508 (lv_at hl 3 rfl) ?_
    have hZH := hZ.kept hS.2.1
    have hFc := va_free (wc := wX h0 h1 h2 h3 h4 h5 h6 h7 h8 h9 cI cJ d r lc bg w rm k pn fa e1 am dd rt b pd pt tp) hD hS hA [0, 1, 2, 3, 4, 5, 6, 7, 8, 9] rfl
    refine nk_icall (wr := []) (mc := 1) (ms := 6) (vx_runSW (As := [.ref h0, .int (nI a1)]) (rest := []) ⟨hx, hb, hml, hown, hts⟩ (c_L_pass l hfl D h0 h1 h2 h3 h4 h5 h6 h7 h8 h9 cI cJ d r lc bg w rm k pn fa e1 am dd rt b pd pt tp H.size (nI a1) ((a1 : Nat) : Int) a1 (nI_toInt (by omega)) (fun _ => ⟨rfl, by omega⟩) hlc he hk hd hroll hrt (by omega)) (vx_cwSW 2 hts gL_law_L_pass rfl rfl rfl (by decide +kernel) ⟨Nat.le_of_ble_eq_true rfl, Nat.le_of_ble_eq_true rfl⟩) ⟨nk_Px.blind, fun U hU hW => ⟨rfl, by rw [hU], by rw [hU]; exact hP, va_K.moved hW.alike hK, hD.weaken (fun _ _ _ _ => trivial), by rw [hU]; exact nk_Z.go hZH hW (fun q h => hFc q h)⟩⟩ rfl rfl hl.1 rfl (lv_room (Nat.le_of_ble_eq_true rfl)) dL_law_510 ⟨by show cells + 1 ≤ 125; omega, by show slots + 6 ≤ 1879; omega⟩) hP hD hS hA [0, 1, 2, 3, 4, 5, 6, 7, 8, 9] [] rfl rfl rfl (by decide) (fun r510 w1 H locs hw510 hP hD hS hk9 => ?_)
    rcases hw510 with ⟨x1, x2, rfl, (⟨x3, rfl⟩ | ⟨x3, rfl⟩)⟩ | ⟨rfl, x1, rfl⟩
    · have hP : va_P D vwCl (wX h0 h1 h2 h3 h4 h5 h6 h7 h8 h9 cI cJ (d + a1) r lc bg w rm k pn fa e1 am dd rt b pd pt tp) H := hP
      have hD : va_D A (wX h0 h1 h2 h3 h4 h5 h6 h7 h8 h9 cI cJ (d + a1) r lc bg w rm k pn fa e1 am dd rt b pd pt tp) := hD
      have hI2 := Inv_passE hI x2 x3
      obtain ⟨hlc, hd, hk, hpn, hbg, hw, hrm, he, hed, hfa, ham, hpd, hpd2, hpt, hbs, hb9, hrt, hdd, hroll, hh1, hh2, hh3, htp, hsa, hk0, he2, he2d, hga, hgb, hgb2, hpi, hdr, hpa1, he20, he21, hk0m, he28, hgbz, halE, hmxE, hlsE⟩ := Inv_f hI2
      have hbs9 := hbs
      have hbs : sm _ _ < 4611686018427387904 := Nat.lt_trans hbs9 (by decide)
      refine lv_istore (lv' := [(14, .int (nI (d + a1))), (13, .int (nI (if 0 < lc ∧ alive e1 lc = 0 then 1 else 0))), (11, .long (lN (ceilA (sm b k)))), (10, .int (nI d)), (9, .int (nI a1)), (0, .ref sb), (1, .ref h0), (2, .int (nI B)), (3, .int (nI E)), (4, .int (nI 1)), (5, .int (nI T)), (6, .int (nI n)), (7, .int v), (8, .int (nI q))]) hx hb dL_law_513 hl (by decide) rfl (fun ls hl => ?_)
      refine lv_iload hx hb dL_law_515 (lv_at hl 0 rfl) ?_
      refine lv_bipush (v := -3) hx hb dL_law_517 (by decide +kernel) ?_
      refine lv_icmp_ne (tgt := 541) hx hb dL_law_519 (by decide) (fun c519 => ?_) (fun c519 => ?_)
      · refine lv_iload hx hb dL_law_541 (lv_at hl 0 rfl) ?_
        refine lv_iload hx hb dL_law_543 (lv_at hl 3 rfl) ?_
        refine lv_iload hx hb dL_law_545 (lv_at hl 4 rfl) ?_
        refine nk_iadd hx hb dL_law_547 ?_
        refine nk_icmp_ne (tgt := 580) hx hb (by omega) (by omega) dL_law_548 (by decide) (fun c548 => ?_) (fun c548 => ?_)
        · exfalso; omega
        · refine lv_aload_n hx hb dL_law_551 rfl (lv_at hl 6 rfl) ?_
          refine nk_rd (W.runV (As := []) (rest := []) ⟨hx, hb, hml, hown, hts⟩ (c_X0_debt l D h0 h1 h2 h3 h4 h5 h6 h7 h8 h9 cI cJ (d + a1) r lc bg w rm k pn fa e1 am dd rt b pd pt tp hk hbs) (cwV 0 hts gL_law_X0_debt rfl rfl rfl (by decide +kernel) ⟨Nat.le_of_ble_eq_true rfl, Nat.le_of_ble_eq_true rfl⟩) ⟨nk_Pr.blind, va_recv hK hP (ci := 0) (q0 := 0) rfl rfl, fun U hU hW => ⟨rfl, by rw [hU]; exact hP, va_K.moved hW.alike hK⟩⟩ rfl rfl hl.1 rfl (lv_room (Nat.le_of_ble_eq_true rfl)) dL_law_552 ⟨by show cells + 1 + 0 ≤ 125; omega, by show slots + 6 + 0 ≤ 1879; omega⟩) ?_
          refine W.eq (g2 := F0 m 555 ls [.long (lN (ceilA (sm b k)))]) rfl ?_
          refine lv_lload hx hb dL_law_555 (lv_at hl 2 rfl) ?_
          refine nk_lcmp_lt (tgt := 580) hx hb (by omega) (by omega) dL_law_557 dL_law_558 (by decide) (fun c557 => ?_) (fun c557 => ?_)
          · exfalso; omega
          · refine lv_iload hx hb dL_law_561 (lv_at hl 1 rfl) ?_
            refine nk_bif_eq (tgt := 576) hx hb dL_law_563 (by decide) (fun c563 => ?_) (fun c563 => ?_)
            · exact absurd x3 c563
            · refine lv_aload_n hx hb dL_law_566 rfl (lv_at hl 6 rfl) ?_
              refine nk_rd (W.runV (As := []) (rest := []) ⟨hx, hb, hml, hown, hts⟩ (c_X0_debt l D h0 h1 h2 h3 h4 h5 h6 h7 h8 h9 cI cJ (d + a1) r lc bg w rm k pn fa e1 am dd rt b pd pt tp hk hbs) (cwV 0 hts gL_law_X0_debt rfl rfl rfl (by decide +kernel) ⟨Nat.le_of_ble_eq_true rfl, Nat.le_of_ble_eq_true rfl⟩) ⟨nk_Pr.blind, va_recv hK hP (ci := 0) (q0 := 0) rfl rfl, fun U hU hW => ⟨rfl, by rw [hU]; exact hP, va_K.moved hW.alike hK⟩⟩ rfl rfl hl.1 rfl (lv_room (Nat.le_of_ble_eq_true rfl)) dL_law_567 ⟨by show cells + 1 + 0 ≤ 125; omega, by show slots + 6 + 0 ≤ 1879; omega⟩) ?_
              refine W.eq (g2 := F0 m 570 ls [.long (lN (ceilA (sm b k)))]) rfl ?_
              refine lv_lload hx hb dL_law_570 (lv_at hl 2 rfl) ?_
              refine nk_lcmp_ne (tgt := 580) hx hb (by omega) (by omega) dL_law_572 dL_law_573 (by decide) (fun c572 => ?_) (fun c572 => ?_)
              · exfalso; omega
              · refine lv_iconst (v := nI 1) hx hb dL_law_576 (by decide +kernel) ?_
                refine lv_goto (tgt := 581) hx hb dL_law_577 (by decide) ?_
                refine lv_istore (lv' := [(4, .int (nI 1)), (14, .int (nI (d + a1))), (13, .int (nI (if 0 < lc ∧ alive e1 lc = 0 then 1 else 0))), (11, .long (lN (ceilA (sm b k)))), (10, .int (nI d)), (9, .int (nI a1)), (0, .ref sb), (1, .ref h0), (2, .int (nI B)), (3, .int (nI E)), (5, .int (nI T)), (6, .int (nI n)), (7, .int v), (8, .int (nI q))]) hx hb dL_law_581 hl (by decide) rfl (fun ls hl => ?_)
                refine W.widen (k := cells + 2) (n := slots + 12) (by omega) (by omega) ?_
                exact kk _ _ _ B E ⟨_, _, _, _, _, _, _, _, _, _, _, _, _, _, _, _, _, _, _, _, _, _, _, hI2, hw0, hbe, hP, hD⟩ hS (lv_sub hl [6, 7, 8, 9, 0, 10, 11] rfl)
      · exact absurd c519 (nk_n3 (by omega))
    · have hP : va_P D vwCl (wX h0 h1 h2 h3 h4 h5 h6 h7 h8 h9 cI cJ (d + a1) r lc bg w rm k pn fa e1 am dd rt (rlB rt b a1 k) pd pt tp) H := hP
      have hD : va_D A (wX h0 h1 h2 h3 h4 h5 h6 h7 h8 h9 cI cJ (d + a1) r lc bg w rm k pn fa e1 am dd rt (rlB rt b a1 k) pd pt tp) := hD
      have hI2 := Inv_passR hI x2 x3
      have hrl := rl_debt rt b a1 k
      obtain ⟨hlc, hd, hk, hpn, hbg, hw, hrm, he, hed, hfa, ham, hpd, hpd2, hpt, hbs, hb9, hrt, hdd, hroll, hh1, hh2, hh3, htp, hsa, hk0, he2, he2d, hga, hgb, hgb2, hpi, hdr, hpa1, he20, he21, hk0m, he28, hgbz, halE, hmxE, hlsE⟩ := Inv_f hI2
      have hbs9 := hbs
      have hbs : sm _ _ < 4611686018427387904 := Nat.lt_trans hbs9 (by decide)
      have hD8 : ceilA (sm (rlB rt b a1 k) k) < 200000000000000 := by unfold ceilA; omega
      refine lv_istore (lv' := [(14, .int (nI (d + a1))), (13, .int (nI (if 0 < lc ∧ alive e1 lc = 0 then 1 else 0))), (11, .long (lN (ceilA (sm b k)))), (10, .int (nI d)), (9, .int (nI a1)), (0, .ref sb), (1, .ref h0), (2, .int (nI B)), (3, .int (nI E)), (4, .int (nI 1)), (5, .int (nI T)), (6, .int (nI n)), (7, .int v), (8, .int (nI q))]) hx hb dL_law_513 hl (by decide) rfl (fun ls hl => ?_)
      refine lv_iload hx hb dL_law_515 (lv_at hl 0 rfl) ?_
      refine lv_bipush (v := -3) hx hb dL_law_517 (by decide +kernel) ?_
      refine lv_icmp_ne (tgt := 541) hx hb dL_law_519 (by decide) (fun c519 => ?_) (fun c519 => ?_)
      · refine lv_iload hx hb dL_law_541 (lv_at hl 0 rfl) ?_
        refine lv_iload hx hb dL_law_543 (lv_at hl 3 rfl) ?_
        refine lv_iload hx hb dL_law_545 (lv_at hl 4 rfl) ?_
        refine nk_iadd hx hb dL_law_547 ?_
        refine nk_icmp_ne (tgt := 580) hx hb (by omega) (by omega) dL_law_548 (by decide) (fun c548 => ?_) (fun c548 => ?_)
        · exfalso; omega
        · refine lv_aload_n hx hb dL_law_551 rfl (lv_at hl 6 rfl) ?_
          refine nk_rd (W.runV (As := []) (rest := []) ⟨hx, hb, hml, hown, hts⟩ (c_X0_debt l D h0 h1 h2 h3 h4 h5 h6 h7 h8 h9 cI cJ (d + a1) r lc bg w rm k pn fa e1 am dd rt (rlB rt b a1 k) pd pt tp hk hbs) (cwV 0 hts gL_law_X0_debt rfl rfl rfl (by decide +kernel) ⟨Nat.le_of_ble_eq_true rfl, Nat.le_of_ble_eq_true rfl⟩) ⟨nk_Pr.blind, va_recv hK hP (ci := 0) (q0 := 0) rfl rfl, fun U hU hW => ⟨rfl, by rw [hU]; exact hP, va_K.moved hW.alike hK⟩⟩ rfl rfl hl.1 rfl (lv_room (Nat.le_of_ble_eq_true rfl)) dL_law_552 ⟨by show cells + 1 + 0 ≤ 125; omega, by show slots + 6 + 0 ≤ 1879; omega⟩) ?_
          refine W.eq (g2 := F0 m 555 ls [.long (lN (ceilA (sm (rlB rt b a1 k) k)))]) rfl ?_
          refine lv_lload hx hb dL_law_555 (lv_at hl 2 rfl) ?_
          refine nk_lcmp_lt (tgt := 580) hx hb (by omega) (by omega) dL_law_557 dL_law_558 (by decide) (fun c557 => ?_) (fun c557 => ?_)
          · exfalso; omega
          · refine lv_iload hx hb dL_law_561 (lv_at hl 1 rfl) ?_
            refine nk_bif_eq (tgt := 576) hx hb dL_law_563 (by decide) (fun c563 => ?_) (fun c563 => ?_)
            · refine lv_iconst (v := nI 1) hx hb dL_law_576 (by decide +kernel) ?_
              refine lv_goto (tgt := 581) hx hb dL_law_577 (by decide) ?_
              refine lv_istore (lv' := [(4, .int (nI 1)), (14, .int (nI (d + a1))), (13, .int (nI (if 0 < lc ∧ alive e1 lc = 0 then 1 else 0))), (11, .long (lN (ceilA (sm b k)))), (10, .int (nI d)), (9, .int (nI a1)), (0, .ref sb), (1, .ref h0), (2, .int (nI B)), (3, .int (nI E)), (5, .int (nI T)), (6, .int (nI n)), (7, .int v), (8, .int (nI q))]) hx hb dL_law_581 hl (by decide) rfl (fun ls hl => ?_)
              refine W.widen (k := cells + 2) (n := slots + 12) (by omega) (by omega) ?_
              exact kk _ _ _ B E ⟨_, _, _, _, _, _, _, _, _, _, _, _, _, _, _, _, _, _, _, _, _, _, _, hI2, hw0, hbe, hP, hD⟩ hS (lv_sub hl [6, 7, 8, 9, 0, 10, 11] rfl)
            · exact absurd c563 x3
      · exact absurd c519 (nk_n3 (by omega))
    · have hP : va_P D vwCl (wX h0 h1 h2 h3 h4 h5 h6 h7 h8 h9 cI cJ d r lc bg w rm k pn fa e1 am dd rt b pd pt tp) H := hP
      have hD : va_D A (wX h0 h1 h2 h3 h4 h5 h6 h7 h8 h9 cI cJ d r lc bg w rm k pn fa e1 am dd rt b pd pt tp) := hD
      refine lv_istore (lv' := [(14, .int (-3)), (13, .int (nI (if 0 < lc ∧ alive e1 lc = 0 then 1 else 0))), (11, .long (lN (ceilA (sm b k)))), (10, .int (nI d)), (9, .int (nI a1)), (0, .ref sb), (1, .ref h0), (2, .int (nI B)), (3, .int (nI E)), (4, .int (nI 1)), (5, .int (nI T)), (6, .int (nI n)), (7, .int v), (8, .int (nI q))]) hx hb dL_law_513 hl (by decide) rfl (fun ls hl => ?_)
      refine lv_iload hx hb dL_law_515 (lv_at hl 0 rfl) ?_
      refine lv_bipush (v := -3) hx hb dL_law_517 (by decide +kernel) ?_
      refine lv_icmp_ne (tgt := 541) hx hb dL_law_519 (by decide) (fun c519 => ?_) (fun c519 => ?_)
      · exact absurd rfl c519
      · refine lv_iload hx hb dL_law_522 (lv_at hl 3 rfl) ?_
        refine lv_iload hx hb dL_law_524 (lv_at hl 4 rfl) ?_
        refine nk_iadd hx hb dL_law_526 ?_
        refine lv_sipush (v := nI 15000) hx hb dL_law_527 (by decide +kernel) ?_
        refine nk_icmp_le (tgt := 537) hx hb (by omega) (by omega) dL_law_530 (by decide) (fun c530 => ?_) (fun c530 => ?_)
        · exfalso; omega
        · refine lv_iconst (v := nI 1) hx hb dL_law_533 (by decide +kernel) ?_
          refine lv_goto (tgt := 581) hx hb dL_law_534 (by decide) ?_
          refine lv_istore (lv' := [(4, .int (nI 1)), (14, .int (-3)), (13, .int (nI (if 0 < lc ∧ alive e1 lc = 0 then 1 else 0))), (11, .long (lN (ceilA (sm b k)))), (10, .int (nI d)), (9, .int (nI a1)), (0, .ref sb), (1, .ref h0), (2, .int (nI B)), (3, .int (nI E)), (5, .int (nI T)), (6, .int (nI n)), (7, .int v), (8, .int (nI q))]) hx hb dL_law_581 hl (by decide) rfl (fun ls hl => ?_)
          refine W.widen (k := cells + 2) (n := slots + 12) (by omega) (by omega) ?_
          exact kk _ _ _ B E ⟨_, _, _, _, _, _, _, _, _, _, _, _, _, _, _, _, _, _, _, _, _, _, _, hI, hw0, hbe, hP, hD⟩ hS (lv_sub hl [6, 7, 8, 9, 0, 10, 11] rfl)
  refine nk_if_ne (tgt := 481) hx hb (lwV_i (by decide) (by decide)) dL_law_472 (by decide) (fun c472 => ?_) (fun c472 => ?_)
  · refine lv_bipush (v := nI 60) hx hb dL_law_481 (by decide +kernel) ?_
    exact kj483 60 (by decide)
  · refine lv_sipush (v := nI 900) hx hb dL_law_475 (by decide +kernel) ?_
    refine lv_goto (tgt := 483) hx hb dL_law_478 (by decide) ?_
    exact kj483 900 (by decide)
set_option maxHeartbeats 8000000 in
set_option maxRecDepth 100000 in
theorem lc_loan {p : Program} {l : Launch} {e : Env} {s : State} {m : MethodId} {below : List Frame} {meth : Method} {c : Code} {sb L : Nat} {xs : Nat → Int32} {D : va_G} {h0 h1 h2 h3 h4 h5 h6 h7 h8 h9 : Nat} {cI cJ : ClassId} {H : Heap} {locs : List Loc} {cells slots : Nat} {Q : State → Prop} {ls : Array Slot} {A : Nat → Prop} {B E T n q : Nat} {v : Int32}
    (C0 : lw_At p s m meth c sb L xs) (hfl : l.stackTraces = false) (hK : va_K D vwCl (tX cI cJ) s) (hA : ∀ q : Nat, s.heap.size ≤ q → A q) (hbA : ¬ A sb) (hZ : nk_Z A s s.heap) (hc9 : cells + 2 ≤ 125) (hs9 : slots + 12 ≤ 1879) (hL : L ≤ 260) (hSt : nk_St D A h0 h1 h2 h3 h4 h5 h6 h7 h8 h9 cI cJ B E H) (hS : va_S A s.heap H locs) (hl : lv_has ls 15 [(0, .ref sb), (1, .ref h0), (2, .int (nI B)), (3, .int (nI E)), (4, .int (nI 1)), (5, .int (nI T)), (6, .int (nI n)), (7, .int v), (8, .int (nI q))]) (hT : T ≤ 54) (hn : n < T) (hB1 : B = 1) (hq9 : q < 10)
    (kk : ∀ (H1 : Heap) (locs1 : List Loc) (ls1 : Array Slot) (B1 E1 : Nat), nk_St D A h0 h1 h2 h3 h4 h5 h6 h7 h8 h9 cI cJ B1 E1 H1 → va_S A s.heap H1 locs1 → lv_has ls1 15 [(0, .ref sb), (1, .ref h0), (2, .int (nI B1)), (3, .int (nI E1)), (4, .int (nI 1)), (5, .int (nI T)), (6, .int (nI n))] → W p l e room_1 s m #[Value.ref sb] below meth c H1 locs1 (cells + 2) (slots + 12) Q (F0 m 583 ls1 [])) : W p l e room_1 s m #[Value.ref sb] below meth c H locs cells slots Q (F0 m 310 ls []) := by
  obtain ⟨hx, hb, hr, hml, hown, hts0, hX, hbl, hlocks, hgv⟩ := id C0
  have hts : ∀ w ∈ wsL_law, w.before #[Value.ref sb] s = true := fun w h => hts0 w (wsL_law_in w h)
  have hown : s.vm.findClass RL = some m.cls := hown
  obtain ⟨d, r, lc, bg, w, rm, k, pn, fa, e1, am, dd, rt, b, pd, pt, tp, gb, dr, pa, pi, ga, e2, hI, hw0, hbe, hP, hD⟩ := hSt
  obtain ⟨hlc, hd, hk, hpn, hbg, hw, hrm, he, hed, hfa, ham, hpd, hpd2, hpt, hbs, hb9, hrt, hdd, hroll, hh1, hh2, hh3, htp, hsa, hk0, he2, he2d, hga, hgb, hgb2, hpi, hdr, hpa1, he20, he21, hk0m, he28, hgbz, halE, hmxE, hlsE⟩ := Inv_f hI
  have hbs9 := hbs
  have hbs : sm _ _ < 4611686018427387904 := Nat.lt_trans hbs9 (by decide)
  refine lv_aload_n hx hb dL_law_310 rfl (lv_at hl 1 rfl) ?_
  refine lv_iload hx hb dL_law_311 (lv_at hl 7 rfl) ?_
  refine lv_iload hx hb dL_law_313 (lv_at hl 8 rfl) ?_
  have hZH := hZ.kept hS.2.1
  have hFc := va_free (wc := wX h0 h1 h2 h3 h4 h5 h6 h7 h8 h9 cI cJ d r lc bg w rm k pn fa e1 am dd rt b pd pt tp) hD hS hA [0, 1, 2, 3, 4, 5, 6, 7, 8, 9] rfl
  refine nk_icall (wr := []) (mc := 2) (ms := 12) (va_runS (As := [.ref h0, .int v, .int (nI q)]) (rest := []) ⟨hx, hb, hml, hown, hts⟩ (c_L_loan l hfl D h0 h1 h2 h3 h4 h5 h6 h7 h8 h9 cI cJ d r lc bg w rm k pn fa e1 am dd rt b pd pt tp H.size gb dr pa pi ga e2 v q hI (by omega) (by omega)) (va_cwS 3 hts gL_law_L_loan rfl rfl rfl (by decide +kernel) ⟨Nat.le_of_ble_eq_true rfl, Nat.le_of_ble_eq_true rfl⟩) ⟨nk_Px.blind, fun U hU hW => ⟨rfl, by rw [hU], by rw [hU]; exact hP, va_K.moved hW.alike hK, hD.weaken (fun _ _ _ _ => trivial), by rw [hU]; exact nk_Z.go hZH hW (fun q h => hFc q h)⟩⟩ rfl rfl hl.1 rfl (lv_room (Nat.le_of_ble_eq_true rfl)) dL_law_315 ⟨by show cells + 2 ≤ 125; omega, by show slots + 12 ≤ 1879; omega⟩) hP hD hS hA [0, 1, 2, 3, 4, 5, 6, 7, 8, 9] [] rfl rfl rfl (by decide) (fun r315 w1 H locs hw315 hP hD hS hk9 => ?_)
  rcases hw315 with ⟨rfl, d2, r2, bg2, w2, rm2, k2, pn2, fa2, am2, dd2, rt2, b2, pd2, pt2, tp2, gb2, dr2, pa2, pi2, ga2, e22, hI2, rfl⟩
  · have hP : va_P D vwCl (wX h0 h1 h2 h3 h4 h5 h6 h7 h8 h9 cI cJ d2 r2 lc bg2 w2 rm2 k2 pn2 fa2 e1 am2 dd2 rt2 b2 pd2 pt2 tp2) H := hP
    have hD : va_D A (wX h0 h1 h2 h3 h4 h5 h6 h7 h8 h9 cI cJ d2 r2 lc bg2 w2 rm2 k2 pn2 fa2 e1 am2 dd2 rt2 b2 pd2 pt2 tp2) := hD
    refine lv_istore (lv' := [(4, .int (nI 1)), (0, .ref sb), (1, .ref h0), (2, .int (nI B)), (3, .int (nI E)), (5, .int (nI T)), (6, .int (nI n)), (7, .int v), (8, .int (nI q))]) hx hb dL_law_318 hl (by decide) rfl (fun ls hl => ?_)
    refine lv_goto (tgt := 583) hx hb dL_law_320 (by decide) ?_
    refine W.widen (k := cells + 2) (n := slots + 12) (by omega) (by omega) ?_
    exact kk _ _ _ B E ⟨_, _, _, _, _, _, _, _, _, _, _, _, _, _, _, _, _, _, _, _, _, _, _, hI2, (fun z => by omega), hbe, hP, hD⟩ hS (lv_sub hl [1, 2, 3, 4, 0, 5, 6] rfl)
set_option maxHeartbeats 8000000 in
set_option maxRecDepth 100000 in
theorem lc_end {p : Program} {l : Launch} {e : Env} {s : State} {m : MethodId} {below : List Frame} {meth : Method} {c : Code} {sb L : Nat} {xs : Nat → Int32} {D : va_G} {h0 h1 h2 h3 h4 h5 h6 h7 h8 h9 : Nat} {cI cJ : ClassId} {H : Heap} {locs : List Loc} {cells slots : Nat} {Q : State → Prop} {ls : Array Slot} {A : Nat → Prop} {B E T n q : Nat} {v : Int32}
    (C0 : lw_At p s m meth c sb L xs) (hfl : l.stackTraces = false) (hK : va_K D vwCl (tX cI cJ) s) (hA : ∀ q : Nat, s.heap.size ≤ q → A q) (hbA : ¬ A sb) (hZ : nk_Z A s s.heap) (hc9 : cells + 2 ≤ 125) (hs9 : slots + 12 ≤ 1879) (hL : L ≤ 260) (hSt : nk_St D A h0 h1 h2 h3 h4 h5 h6 h7 h8 h9 cI cJ B E H) (hS : va_S A s.heap H locs) (hl : lv_has ls 15 [(0, .ref sb), (1, .ref h0), (2, .int (nI B)), (3, .int (nI E)), (4, .int (nI 1)), (5, .int (nI T)), (6, .int (nI n)), (7, .int v), (8, .int (nI q))]) (hT : T ≤ 54) (hn : n < T) (hB1 : B = 1)
    (kk : ∀ (H1 : Heap) (locs1 : List Loc) (ls1 : Array Slot) (B1 E1 : Nat), nk_St D A h0 h1 h2 h3 h4 h5 h6 h7 h8 h9 cI cJ B1 E1 H1 → va_S A s.heap H1 locs1 → lv_has ls1 15 [(0, .ref sb), (1, .ref h0), (2, .int (nI B1)), (3, .int (nI E1)), (4, .int (nI 1)), (5, .int (nI T)), (6, .int (nI n))] → W p l e room_1 s m #[Value.ref sb] below meth c H1 locs1 (cells + 2) (slots + 12) Q (F0 m 583 ls1 [])) : W p l e room_1 s m #[Value.ref sb] below meth c H locs cells slots Q (F0 m 343 ls []) := by
  obtain ⟨hx, hb, hr, hml, hown, hts0, hX, hbl, hlocks, hgv⟩ := id C0
  have hts : ∀ w ∈ wsL_law, w.before #[Value.ref sb] s = true := fun w h => hts0 w (wsL_law_in w h)
  have hown : s.vm.findClass RL = some m.cls := hown
  obtain ⟨d, r, lc, bg, w, rm, k, pn, fa, e1, am, dd, rt, b, pd, pt, tp, gb, dr, pa, pi, ga, e2, hI, hw0, hbe, hP, hD⟩ := hSt
  obtain ⟨hlc, hd, hk, hpn, hbg, hw, hrm, he, hed, hfa, ham, hpd, hpd2, hpt, hbs, hb9, hrt, hdd, hroll, hh1, hh2, hh3, htp, hsa, hk0, he2, he2d, hga, hgb, hgb2, hpi, hdr, hpa1, he20, he21, hk0m, he28, hgbz, halE, hmxE, hlsE⟩ := Inv_f hI
  have hbs9 := hbs
  have hbs : sm _ _ < 4611686018427387904 := Nat.lt_trans hbs9 (by decide)
  refine lv_iload hx hb dL_law_343 (lv_at hl 7 rfl) ?_
  refine lv_iconst (v := nI 3) hx hb dL_law_345 (by decide +kernel) ?_
  refine lv_ishr hx hb dL_law_346 ?_
  refine lv_iconst (v := nI 2) hx hb dL_law_347 (by decide +kernel) ?_
  refine nk_rd (W.runS (As := [.int (v >>> (nI 3 &&& 31)), .int (nI 2)]) (rest := []) ⟨hx, hb, hml, hown, hts⟩ (c_L_low l (v >>> (nI 3 &&& 31)) 2 (by omega) (by omega)) (va_cwS 2 hts gL_law_L_low rfl rfl rfl (by decide +kernel) ⟨Nat.le_of_ble_eq_true rfl, Nat.le_of_ble_eq_true rfl⟩) ⟨nk_P0.blind, fun U hU hW => ⟨rfl, trivial⟩⟩ rfl rfl hl.1 rfl (lv_room (Nat.le_of_ble_eq_true rfl)) dL_law_348 ⟨by show cells + 0 ≤ 125; omega, by show slots + 0 ≤ 1879; omega⟩) ?_
  refine W.eq (g2 := F0 m 351 ls [.int (nI (lwV (v >>> (nI 3 &&& 31)) 2))]) rfl ?_
  have hlw2 := lwV_lt (x := v >>> (nI 3 &&& 31)) (n := 2) (by decide)
  obtain ⟨t9, ht9⟩ : ∃ x : Nat, x = lwV (v >>> (nI 3 &&& 31)) 2 := ⟨_, rfl⟩
  refine nk_topi (y := nI t9) (by rw [ht9]) ?_
  refine lv_istore (lv' := [(9, .int (nI t9)), (0, .ref sb), (1, .ref h0), (2, .int (nI B)), (3, .int (nI E)), (4, .int (nI 1)), (5, .int (nI T)), (6, .int (nI n)), (7, .int v), (8, .int (nI q))]) hx hb dL_law_351 hl (by decide) rfl (fun ls hl => ?_)
  refine lv_iload_n hx hb dL_law_353 rfl (lv_at hl 4 rfl) ?_
  refine lv_iload hx hb dL_law_354 (lv_at hl 0 rfl) ?_
  refine lv_ishr hx hb dL_law_356 ?_
  refine lv_iconst (v := nI 1) hx hb dL_law_357 (by decide +kernel) ?_
  refine lv_iand hx hb dL_law_358 ?_
  refine nk_topi (y := nI (E / 2 ^ t9 % 2)) (en_bit hbe.2.2.1 (by omega)) ?_
  refine nk_if_ne (tgt := 412) hx hb (by omega) dL_law_359 (by decide) (fun c359 => ?_) (fun c359 => ?_)
  · refine lv_goto (tgt := 583) hx hb dL_law_412 (by decide) ?_
    refine W.widen (k := cells + 2) (n := slots + 12) (by omega) (by omega) ?_
    exact kk _ _ _ B E ⟨_, _, _, _, _, _, _, _, _, _, _, _, _, _, _, _, _, _, _, _, _, _, _, hI, hw0, hbe, hP, hD⟩ hS (lv_sub hl [1, 2, 3, 4, 5, 6, 7] rfl)
  · obtain ⟨ht1, ht2, hen, hal⟩ := en_end (d := d) (hbe.2.2.2 (by omega)) (by omega) hlc (show t9 < 2 by omega) c359
    refine lv_iload_n hx hb dL_law_362 rfl (lv_at hl 4 rfl) ?_
    refine lv_iconst (v := nI 1) hx hb dL_law_363 (by decide +kernel) ?_
    refine lv_iload hx hb dL_law_364 (lv_at hl 0 rfl) ?_
    refine lv_ishl hx hb dL_law_366 ?_
    refine lv_ior hx hb dL_law_367 ?_
    refine nk_topi (y := nI (E + 2 ^ t9)) (en_set hbe.2.2.1 (by omega) c359) ?_
    obtain ⟨E9, hE9⟩ : ∃ x : Nat, x = E + 2 ^ t9 := ⟨_, rfl⟩
    refine nk_topi (y := nI E9) (by rw [hE9]) ?_
    rw [← hE9] at hen hal
    have hE94 := hen.1
    refine lv_istore_n (lv' := [(3, .int (nI E9)), (9, .int (nI t9)), (0, .ref sb), (1, .ref h0), (2, .int (nI B)), (4, .int (nI 1)), (5, .int (nI T)), (6, .int (nI n)), (7, .int v), (8, .int (nI q))]) hx hb dL_law_368 rfl hl (by decide) rfl (fun ls hl => ?_)
    refine lv_aload_n hx hb dL_law_369 rfl (lv_at hl 3 rfl) ?_
    refine lv_iload hx hb dL_law_370 (lv_at hl 1 rfl) ?_
    have hZH := hZ.kept hS.2.1
    have hFc := va_free (wc := wX h0 h1 h2 h3 h4 h5 h6 h7 h8 h9 cI cJ d r lc bg w rm k pn fa e1 am dd rt b pd pt tp) hD hS hA [0, 1, 2, 3, 4, 5, 6, 7, 8, 9] rfl
    refine nk_icallx (wr := []) (mc := 1) (ms := 6) (vx_runV (As := [.int (nI t9)]) (rest := []) ⟨hx, hb, hml, hown, hts⟩ (c_X0_end l hfl D h0 h1 h2 h3 h4 h5 h6 h7 h8 h9 cI cJ d r lc bg w rm k pn fa e1 am dd rt b pd pt tp H.size (nI t9) ((t9 : Nat) : Int) t9 (nI_toInt (by omega)) (fun _ => ⟨rfl, by omega⟩) hlc he hd) (cwV 1 hts gL_law_X0_end rfl rfl rfl (by decide +kernel) ⟨Nat.le_of_ble_eq_true rfl, Nat.le_of_ble_eq_true rfl⟩) ⟨nk_Px.blind, va_recv hK hP (ci := 0) (q0 := 0) rfl rfl, fun U hU hW => ⟨rfl, by rw [hU], by rw [hU]; exact hP, va_K.moved hW.alike hK, hD.weaken (fun _ _ _ _ => trivial), by rw [hU]; exact nk_Z.go hZH hW (fun q h => hFc q h)⟩⟩ rfl rfl hl.1 rfl (lv_room (Nat.le_of_ble_eq_true rfl)) dL_law_372 ⟨by show cells + 1 ≤ 125; omega, by show slots + 6 ≤ 1879; omega⟩) hP hD hS hA [0, 1, 2, 3, 4, 5, 6, 7, 8, 9] [] rfl rfl rfl (by decide) (fun E9 ce q9 H9 locs9 hE hz9 hk9 hP9 hS9 hce hcv hcl => ?_) (fun r372 w1 H locs hw372 hP hD hS hk9 => ?_)
    · exfalso; rcases hE with ⟨-, h9⟩ | ⟨-, -, h9⟩ <;> omega
    rcases hw372 with ⟨x1, x2, rfl, rfl⟩
    · have hP : va_P D vwCl (wX h0 h1 h2 h3 h4 h5 h6 h7 h8 h9 cI cJ d r lc bg w rm k pn fa (va_up e1 t9 (d + 1)) am dd rt b pd pt tp) H := hP
      have hD : va_D A (wX h0 h1 h2 h3 h4 h5 h6 h7 h8 h9 cI cJ d r lc bg w rm k pn fa (va_up e1 t9 (d + 1)) am dd rt b pd pt tp) := hD
      have hI2 := Inv_end hI ht1 ht2
      obtain ⟨hlc, hd, hk, hpn, hbg, hw, hrm, he, hed, hfa, ham, hpd, hpd2, hpt, hbs, hb9, hrt, hdd, hroll, hh1, hh2, hh3, htp, hsa, hk0, he2, he2d, hga, hgb, hgb2, hpi, hdr, hpa1, he20, he21, hk0m, he28, hgbz, halE, hmxE, hlsE⟩ := Inv_f hI2
      have hbs9 := hbs
      have hbs : sm _ _ < 4611686018427387904 := Nat.lt_trans hbs9 (by decide)
      have hav := alive_le (va_up e1 t9 (d + 1)) lc
      refine lv_iload_n hx hb dL_law_375 rfl (lv_at hl 0 rfl) ?_
      refine lv_iconst (v := nI 3) hx hb dL_law_376 (by decide +kernel) ?_
      refine nk_icmp_ne (tgt := 384) hx hb (by omega) (by omega) dL_law_377 (by decide) (fun c377 => ?_) (fun c377 => ?_)
      · have hal1 : alive (va_up e1 t9 (d + 1)) lc = 1 := by rw [hal, if_neg c377]
        refine lv_iconst (v := nI 1) hx hb dL_law_384 (by decide +kernel) ?_
        refine nk_icmp_ne (tgt := 409) hx hb (by omega) (by omega) dL_law_385 (by decide) (fun c385 => ?_) (fun c385 => ?_)
        · exfalso; omega
        · refine lv_aload_n hx hb dL_law_388 rfl (lv_at hl 3 rfl) ?_
          refine nk_rd (W.runV (As := []) (rest := []) ⟨hx, hb, hml, hown, hts⟩ (c_X0_hasEnded l D h0 h1 h2 h3 h4 h5 h6 h7 h8 h9 cI cJ d r lc bg w rm k pn fa (va_up e1 t9 (d + 1)) am dd rt b pd pt tp hlc he) (cwV 0 hts gL_law_X0_hasEnded rfl rfl rfl (by decide +kernel) ⟨Nat.le_of_ble_eq_true rfl, Nat.le_of_ble_eq_true rfl⟩) ⟨nk_Pr.blind, va_recv hK hP (ci := 0) (q0 := 0) rfl rfl, fun U hU hW => ⟨rfl, by rw [hU]; exact hP, va_K.moved hW.alike hK⟩⟩ rfl rfl hl.1 rfl (lv_room (Nat.le_of_ble_eq_true rfl)) dL_law_389 ⟨by show cells + 1 + 0 ≤ 125; omega, by show slots + 6 + 0 ≤ 1879; omega⟩) ?_
          refine W.eq (g2 := F0 m 392 ls [.int (nI (if 0 < lc ∧ alive (va_up e1 t9 (d + 1)) lc = 0 then 1 else 0))]) rfl ?_
          refine lv_iload_n hx hb dL_law_392 rfl (lv_at hl 0 rfl) ?_
          refine lv_iconst (v := nI 3) hx hb dL_law_393 (by decide +kernel) ?_
          refine nk_icmp_ne (tgt := 401) hx hb (by omega) (by omega) dL_law_394 (by decide) (fun c394 => ?_) (fun c394 => ?_)
          · refine lv_iconst (v := nI 0) hx hb dL_law_401 (by decide +kernel) ?_
            refine lv_icmp_ne (tgt := 409) hx hb dL_law_402 (by decide) (fun c402 => ?_) (fun c402 => ?_)
            · exact absurd (by rw [if_neg (by omega)]) c402
            · refine lv_iconst (v := nI 1) hx hb dL_law_405 (by decide +kernel) ?_
              refine lv_goto (tgt := 410) hx hb dL_law_406 (by decide) ?_
              refine lv_istore (lv' := [(4, .int (nI 1)), (3, .int (nI E9)), (9, .int (nI t9)), (0, .ref sb), (1, .ref h0), (2, .int (nI B)), (5, .int (nI T)), (6, .int (nI n)), (7, .int v), (8, .int (nI q))]) hx hb dL_law_410 hl (by decide) rfl (fun ls hl => ?_)
              refine lv_goto (tgt := 583) hx hb dL_law_412 (by decide) ?_
              refine W.widen (k := cells + 2) (n := slots + 12) (by omega) (by omega) ?_
              exact kk _ _ _ B E9 ⟨_, _, _, _, _, _, _, _, _, _, _, _, _, _, _, _, _, _, _, _, _, _, _, hI2, hw0, ⟨by omega, by omega, hE94, fun _ => hen⟩, hP, hD⟩ hS (lv_sub hl [3, 4, 5, 1, 0, 6, 7] rfl)
          · exfalso; omega
      · have hal1 : alive (va_up e1 t9 (d + 1)) lc = 0 := by rw [hal, if_pos c377]
        refine lv_iconst (v := nI 0) hx hb dL_law_380 (by decide +kernel) ?_
        refine lv_goto (tgt := 385) hx hb dL_law_381 (by decide) ?_
        refine nk_icmp_ne (tgt := 409) hx hb (by omega) (by omega) dL_law_385 (by decide) (fun c385 => ?_) (fun c385 => ?_)
        · exfalso; omega
        · refine lv_aload_n hx hb dL_law_388 rfl (lv_at hl 3 rfl) ?_
          refine nk_rd (W.runV (As := []) (rest := []) ⟨hx, hb, hml, hown, hts⟩ (c_X0_hasEnded l D h0 h1 h2 h3 h4 h5 h6 h7 h8 h9 cI cJ d r lc bg w rm k pn fa (va_up e1 t9 (d + 1)) am dd rt b pd pt tp hlc he) (cwV 0 hts gL_law_X0_hasEnded rfl rfl rfl (by decide +kernel) ⟨Nat.le_of_ble_eq_true rfl, Nat.le_of_ble_eq_true rfl⟩) ⟨nk_Pr.blind, va_recv hK hP (ci := 0) (q0 := 0) rfl rfl, fun U hU hW => ⟨rfl, by rw [hU]; exact hP, va_K.moved hW.alike hK⟩⟩ rfl rfl hl.1 rfl (lv_room (Nat.le_of_ble_eq_true rfl)) dL_law_389 ⟨by show cells + 1 + 0 ≤ 125; omega, by show slots + 6 + 0 ≤ 1879; omega⟩) ?_
          refine W.eq (g2 := F0 m 392 ls [.int (nI (if 0 < lc ∧ alive (va_up e1 t9 (d + 1)) lc = 0 then 1 else 0))]) rfl ?_
          refine lv_iload_n hx hb dL_law_392 rfl (lv_at hl 0 rfl) ?_
          refine lv_iconst (v := nI 3) hx hb dL_law_393 (by decide +kernel) ?_
          refine nk_icmp_ne (tgt := 401) hx hb (by omega) (by omega) dL_law_394 (by decide) (fun c394 => ?_) (fun c394 => ?_)
          · exfalso; omega
          · refine lv_iconst (v := nI 1) hx hb dL_law_397 (by decide +kernel) ?_
            refine lv_goto (tgt := 402) hx hb dL_law_398 (by decide) ?_
            refine lv_icmp_ne (tgt := 409) hx hb dL_law_402 (by decide) (fun c402 => ?_) (fun c402 => ?_)
            · exact absurd (by rw [if_pos ⟨by omega, by omega⟩]) c402
            · refine lv_iconst (v := nI 1) hx hb dL_law_405 (by decide +kernel) ?_
              refine lv_goto (tgt := 410) hx hb dL_law_406 (by decide) ?_
              refine lv_istore (lv' := [(4, .int (nI 1)), (3, .int (nI E9)), (9, .int (nI t9)), (0, .ref sb), (1, .ref h0), (2, .int (nI B)), (5, .int (nI T)), (6, .int (nI n)), (7, .int v), (8, .int (nI q))]) hx hb dL_law_410 hl (by decide) rfl (fun ls hl => ?_)
              refine lv_goto (tgt := 583) hx hb dL_law_412 (by decide) ?_
              refine W.widen (k := cells + 2) (n := slots + 12) (by omega) (by omega) ?_
              exact kk _ _ _ B E9 ⟨_, _, _, _, _, _, _, _, _, _, _, _, _, _, _, _, _, _, _, _, _, _, _, hI2, hw0, ⟨by omega, by omega, hE94, fun _ => hen⟩, hP, hD⟩ hS (lv_sub hl [3, 4, 5, 1, 0, 6, 7] rfl)
set_option maxHeartbeats 8000000 in
set_option maxRecDepth 100000 in
theorem lc_begin {p : Program} {l : Launch} {e : Env} {s : State} {m : MethodId} {below : List Frame} {meth : Method} {c : Code} {sb L : Nat} {xs : Nat → Int32} {D : va_G} {h0 h1 h2 h3 h4 h5 h6 h7 h8 h9 : Nat} {cI cJ : ClassId} {H : Heap} {locs : List Loc} {cells slots : Nat} {Q : State → Prop} {ls : Array Slot} {A : Nat → Prop} {B E T n q : Nat} {v : Int32}
    (C0 : lw_At p s m meth c sb L xs) (hfl : l.stackTraces = false) (hK : va_K D vwCl (tX cI cJ) s) (hA : ∀ q : Nat, s.heap.size ≤ q → A q) (hbA : ¬ A sb) (hZ : nk_Z A s s.heap) (hc9 : cells + 2 ≤ 125) (hs9 : slots + 12 ≤ 1879) (hL : L ≤ 260) (hSt : nk_St D A h0 h1 h2 h3 h4 h5 h6 h7 h8 h9 cI cJ B E H) (hS : va_S A s.heap H locs) (hl : lv_has ls 15 [(0, .ref sb), (1, .ref h0), (2, .int (nI B)), (3, .int (nI E)), (4, .int (nI 1)), (5, .int (nI T)), (6, .int (nI n)), (7, .int v), (8, .int (nI q))]) (hT : T ≤ 54) (hn : n < T) (hB0 : B = 0)
    (kk : ∀ (H1 : Heap) (locs1 : List Loc) (ls1 : Array Slot) (B1 E1 : Nat), nk_St D A h0 h1 h2 h3 h4 h5 h6 h7 h8 h9 cI cJ B1 E1 H1 → va_S A s.heap H1 locs1 → lv_has ls1 15 [(0, .ref sb), (1, .ref h0), (2, .int (nI B1)), (3, .int (nI E1)), (4, .int (nI 1)), (5, .int (nI T)), (6, .int (nI n))] → W p l e room_1 s m #[Value.ref sb] below meth c H1 locs1 (cells + 2) (slots + 12) Q (F0 m 583 ls1 [])) : W p l e room_1 s m #[Value.ref sb] below meth c H locs cells slots Q (F0 m 123 ls []) := by
  obtain ⟨hx, hb, hr, hml, hown, hts0, hX, hbl, hlocks, hgv⟩ := id C0
  have hts : ∀ w ∈ wsL_law, w.before #[Value.ref sb] s = true := fun w h => hts0 w (wsL_law_in w h)
  have hown : s.vm.findClass RL = some m.cls := hown
  have k105 : (Cond.constant RL 105 (nI 9999001)).before #[Value.ref sb] s = true := by
    rw [show (nI 9999001 : Int32) = 9999001 from by decide +kernel]
    exact hts (.constant RL 105 (9999001)) (by decide +kernel)
  have k106 : (Cond.constant RL 106 (nI 400000)).before #[Value.ref sb] s = true := by
    rw [show (nI 400000 : Int32) = 400000 from by decide +kernel]
    exact hts (.constant RL 106 (400000)) (by decide +kernel)
  obtain ⟨d, r, lc, bg, w, rm, k, pn, fa, e1, am, dd, rt, b, pd, pt, tp, gb, dr, pa, pi, ga, e2, hI, hw0, hbe, hP, hD⟩ := hSt
  obtain ⟨hlc, hd, hk, hpn, hbg, hw, hrm, he, hed, hfa, ham, hpd, hpd2, hpt, hbs, hb9, hrt, hdd, hroll, hh1, hh2, hh3, htp, hsa, hk0, he2, he2d, hga, hgb, hgb2, hpi, hdr, hpa1, he20, he21, hk0m, he28, hgbz, halE, hmxE, hlsE⟩ := Inv_f hI
  have hbs9 := hbs
  have hbs : sm _ _ < 4611686018427387904 := Nat.lt_trans hbs9 (by decide)
  have hlc0 : lc = 0 := by omega
  have hw00 := hw0 hlc0
  have hk00 := hk0 hlc0
  refine lv_iload hx hb dL_law_123 (lv_at hl 7 rfl) ?_
  refine lv_bipush (v := nI 9) hx hb dL_law_125 (by decide +kernel) ?_
  refine lv_ishr hx hb dL_law_127 ?_
  refine lv_iconst (v := nI 2) hx hb dL_law_128 (by decide +kernel) ?_
  refine nk_rd (W.runS (As := [.int (v >>> (nI 9 &&& 31)), .int (nI 2)]) (rest := []) ⟨hx, hb, hml, hown, hts⟩ (c_L_low l (v >>> (nI 9 &&& 31)) 2 (by omega) (by omega)) (va_cwS 2 hts gL_law_L_low rfl rfl rfl (by decide +kernel) ⟨Nat.le_of_ble_eq_true rfl, Nat.le_of_ble_eq_true rfl⟩) ⟨nk_P0.blind, fun U hU hW => ⟨rfl, trivial⟩⟩ rfl rfl hl.1 rfl (lv_room (Nat.le_of_ble_eq_true rfl)) dL_law_129 ⟨by show cells + 0 ≤ 125; omega, by show slots + 0 ≤ 1879; omega⟩) ?_
  refine W.eq (g2 := F0 m 132 ls [.int (nI (lwV (v >>> (nI 9 &&& 31)) 2))]) rfl ?_
  have kj151 : ∀ (s9 : Nat), (s9 = 0 ∨ (55 ≤ s9 ∧ s9 ≤ 95)) → W p l e room_1 s m #[Value.ref sb] below meth c H locs (cells) (slots) Q (F0 m 151 ls [.int (nI s9)]) := by
    intro s9 hs9e
    refine lv_istore (lv' := [(9, .int (nI s9)), (0, .ref sb), (1, .ref h0), (2, .int (nI B)), (3, .int (nI E)), (4, .int (nI 1)), (5, .int (nI T)), (6, .int (nI n)), (7, .int v), (8, .int (nI q))]) hx hb dL_law_151 hl (by decide) rfl (fun ls hl => ?_)
    refine lv_sipush (v := nI 1000) hx hb dL_law_153 (by decide +kernel) ?_
    refine lv_iload hx hb dL_law_156 (lv_at hl 8 rfl) ?_
    refine lv_ldc (v := nI 9999001) hx hb hown k105 dL_law_158 ?_
    refine nk_rd (W.runS (As := [.int v, .int (nI 9999001)]) (rest := [.int (nI 1000)]) ⟨hx, hb, hml, hown, hts⟩ (c_L_low l v 9999001 (by omega) (by omega)) (va_cwS 2 hts gL_law_L_low rfl rfl rfl (by decide +kernel) ⟨Nat.le_of_ble_eq_true rfl, Nat.le_of_ble_eq_true rfl⟩) ⟨nk_P0.blind, fun U hU hW => ⟨rfl, trivial⟩⟩ rfl rfl hl.1 rfl (lv_room (Nat.le_of_ble_eq_true rfl)) dL_law_160 ⟨by show cells + 0 ≤ 125; omega, by show slots + 0 ≤ 1879; omega⟩) ?_
    refine W.eq (g2 := F0 m 163 ls [.int (nI (lwV v 9999001)), .int (nI 1000)]) rfl ?_
    refine nk_iadd hx hb dL_law_163 ?_
    have hlw9999001 := lwV_lt (x := v) (n := 9999001) (by decide)
    obtain ⟨w9, hw9⟩ : ∃ x : Nat, x = 1000 + lwV v 9999001 := ⟨_, rfl⟩
    refine nk_topi (y := nI w9) (by rw [hw9]) ?_
    refine lv_istore (lv' := [(10, .int (nI w9)), (9, .int (nI s9)), (0, .ref sb), (1, .ref h0), (2, .int (nI B)), (3, .int (nI E)), (4, .int (nI 1)), (5, .int (nI T)), (6, .int (nI n)), (7, .int v), (8, .int (nI q))]) hx hb dL_law_164 hl (by decide) rfl (fun ls hl => ?_)
    refine lv_aload_n hx hb dL_law_166 rfl (lv_at hl 3 rfl) ?_
    refine lv_iload hx hb dL_law_167 (lv_at hl 0 rfl) ?_
    refine lv_bipush (v := nI 55) hx hb dL_law_169 (by decide +kernel) ?_
    refine lv_iload hx hb dL_law_171 (lv_at hl 9 rfl) ?_
    refine lv_iconst (v := nI 3) hx hb dL_law_173 (by decide +kernel) ?_
    refine lv_ishr hx hb dL_law_174 ?_
    refine lv_bipush (v := nI 41) hx hb dL_law_175 (by decide +kernel) ?_
    refine nk_rd (W.runS (As := [.int (v >>> (nI 3 &&& 31)), .int (nI 41)]) (rest := [.int (nI 55), .int (nI w9), .ref h0]) ⟨hx, hb, hml, hown, hts⟩ (c_L_low l (v >>> (nI 3 &&& 31)) 41 (by omega) (by omega)) (va_cwS 2 hts gL_law_L_low rfl rfl rfl (by decide +kernel) ⟨Nat.le_of_ble_eq_true rfl, Nat.le_of_ble_eq_true rfl⟩) ⟨nk_P0.blind, fun U hU hW => ⟨rfl, trivial⟩⟩ rfl rfl hl.1 rfl (lv_room (Nat.le_of_ble_eq_true rfl)) dL_law_177 ⟨by show cells + 0 ≤ 125; omega, by show slots + 0 ≤ 1879; omega⟩) ?_
    refine W.eq (g2 := F0 m 180 ls [.int (nI (lwV (v >>> (nI 3 &&& 31)) 41)), .int (nI 55), .int (nI w9), .ref h0]) rfl ?_
    refine nk_iadd hx hb dL_law_180 ?_
    have hlw41 := lwV_lt (x := v >>> (nI 3 &&& 31)) (n := 41) (by decide)
    obtain ⟨f9, hf9⟩ : ∃ x : Nat, x = 55 + lwV (v >>> (nI 3 &&& 31)) 41 := ⟨_, rfl⟩
    refine nk_topi (y := nI f9) (by rw [hf9]) ?_
    refine lv_iload hx hb dL_law_181 (lv_at hl 1 rfl) ?_
    refine lv_iload hx hb dL_law_183 (lv_at hl 9 rfl) ?_
    refine lv_bipush (v := nI 7) hx hb dL_law_185 (by decide +kernel) ?_
    refine lv_ishr hx hb dL_law_187 ?_
    refine lv_ldc (v := nI 400000) hx hb hown k106 dL_law_188 ?_
    refine nk_rd (W.runS (As := [.int (v >>> (nI 7 &&& 31)), .int (nI 400000)]) (rest := [.int (nI s9), .int (nI f9), .int (nI w9), .ref h0]) ⟨hx, hb, hml, hown, hts⟩ (c_L_low l (v >>> (nI 7 &&& 31)) 400000 (by omega) (by omega)) (va_cwS 2 hts gL_law_L_low rfl rfl rfl (by decide +kernel) ⟨Nat.le_of_ble_eq_true rfl, Nat.le_of_ble_eq_true rfl⟩) ⟨nk_P0.blind, fun U hU hW => ⟨rfl, trivial⟩⟩ rfl rfl hl.1 rfl (lv_room (Nat.le_of_ble_eq_true rfl)) dL_law_190 ⟨by show cells + 0 ≤ 125; omega, by show slots + 0 ≤ 1879; omega⟩) ?_
    refine W.eq (g2 := F0 m 193 ls [.int (nI (lwV (v >>> (nI 7 &&& 31)) 400000)), .int (nI s9), .int (nI f9), .int (nI w9), .ref h0]) rfl ?_
    have hlw400000 := lwV_lt (x := v >>> (nI 7 &&& 31)) (n := 400000) (by decide)
    obtain ⟨m9, hm9⟩ : ∃ x : Nat, x = lwV (v >>> (nI 7 &&& 31)) 400000 := ⟨_, rfl⟩
    refine nk_topi (y := nI m9) (by rw [hm9]) ?_
    have hZH := hZ.kept hS.2.1
    have hFc := va_free (wc := wX h0 h1 h2 h3 h4 h5 h6 h7 h8 h9 cI cJ d r lc bg w rm k pn fa e1 am dd rt b pd pt tp) hD hS hA [0, 1, 2, 3, 4, 5, 6, 7, 8, 9] rfl
    refine nk_icall (wr := []) (mc := 1) (ms := 6) (vx_runSW (As := [.ref h0, .int (nI w9), .int (nI f9), .int (nI s9), .int (nI m9)]) (rest := []) ⟨hx, hb, hml, hown, hts⟩ (c_L_begin l hfl D h0 h1 h2 h3 h4 h5 h6 h7 h8 h9 cI cJ d r lc bg w rm k pn fa e1 am dd rt b pd pt tp H.size (nI w9) (nI f9) (nI s9) (nI m9) ((w9 : Nat) : Int) ((f9 : Nat) : Int) ((s9 : Nat) : Int) ((m9 : Nat) : Int) w9 f9 s9 m9 (nI_toInt (by omega)) (fun _ => ⟨rfl, by omega⟩) (nI_toInt (by omega)) (fun _ => ⟨rfl, by omega⟩) (nI_toInt (by omega)) (fun _ => ⟨rfl, by omega⟩) (nI_toInt (by omega)) (fun _ => ⟨rfl, by omega⟩) hlc hd hk0 (by omega)) (vx_cwSW 5 hts gL_law_L_begin rfl rfl rfl (by decide +kernel) ⟨Nat.le_of_ble_eq_true rfl, Nat.le_of_ble_eq_true rfl⟩) ⟨nk_Px.blind, fun U hU hW => ⟨rfl, by rw [hU], by rw [hU]; exact hP, va_K.moved hW.alike hK, hD.weaken (fun _ _ _ _ => trivial), by rw [hU]; exact nk_Z.go hZH hW (fun q h => hFc q h)⟩⟩ rfl rfl hl.1 rfl (lv_room (Nat.le_of_ble_eq_true rfl)) dL_law_193 ⟨by show cells + 1 ≤ 125; omega, by show slots + 6 ≤ 1879; omega⟩) hP hD hS hA [0, 1, 2, 3, 4, 5, 6, 7, 8, 9] [] rfl rfl rfl (by decide) (fun r193 w1 H locs hw193 hP hD hS hk9 => ?_)
    rcases hw193 with ⟨x1, x2, (⟨x3, x4, x5, rfl, rfl⟩ | ⟨x3, x4, x5, rfl, rfl⟩ | ⟨x3, x4, x5, rfl, rfl⟩ | ⟨x3, x4, x5, rfl, rfl⟩)⟩ | ⟨rfl, x1, rfl⟩
    · have hP : va_P D vwCl (wX h0 h1 h2 h3 h4 h5 h6 h7 h8 h9 cI cJ d r (lc + 1) d w9 (gL w9 (f9 + d / 365)) k pn (va_up fa lc f9) (va_up e1 lc 0) am dd rt b pd pt tp) H := hP
      have hD : va_D A (wX h0 h1 h2 h3 h4 h5 h6 h7 h8 h9 cI cJ d r (lc + 1) d w9 (gL w9 (f9 + d / 365)) k pn (va_up fa lc f9) (va_up e1 lc 0) am dd rt b pd pt tp) := hD
      have hg9 : gL w9 (f9 + d / 365) ≤ 5500000 := gL_le (by omega)
      have hI2 : Inv d r (lc + 1) d w9 (gL w9 (f9 + d / 365)) k pn (va_up fa lc f9) (va_up e1 lc 0) am dd rt b pd pt tp (d + 1) dr pa pi (va_up (va_up ga 0 f9) 1 s9) e2 := by
        obtain rfl : lc = 0 := x2
        obtain ⟨hk00, hp00, -, -⟩ := hI.2.2.1.2.1 rfl
        subst hk00
        subst hp00
        exact Inv_begin1 (a3 := s9) hI (by omega : w9 ≤ 10000000) (by omega : 55 ≤ f9 ∧ f9 ≤ 95) hg9
      obtain ⟨hlc, hd, hk, hpn, hbg, hw, hrm, he, hed, hfa, ham, hpd, hpd2, hpt, hbs, hb9, hrt, hdd, hroll, hh1, hh2, hh3, htp, hsa, hk0, he2, he2d, hga, hgb, hgb2, hpi, hdr, hpa1, he20, he21, hk0m, he28, hgbz, halE, hmxE, hlsE⟩ := Inv_f hI2
      have hbs9 := hbs
      have hbs : sm _ _ < 4611686018427387904 := Nat.lt_trans hbs9 (by decide)
      refine lv_istore (lv' := [(11, .int (nI (gL w9 (f9 + d / 365)))), (10, .int (nI w9)), (9, .int (nI s9)), (0, .ref sb), (1, .ref h0), (2, .int (nI B)), (3, .int (nI E)), (4, .int (nI 1)), (5, .int (nI T)), (6, .int (nI n)), (7, .int v), (8, .int (nI q))]) hx hb dL_law_196 hl (by decide) rfl (fun ls hl => ?_)
      refine lv_iload hx hb dL_law_198 (lv_at hl 0 rfl) ?_
      refine lv_bipush (v := -3) hx hb dL_law_200 (by decide +kernel) ?_
      refine lv_icmp_eq (tgt := 209) hx hb dL_law_202 (by decide) (fun c202 => ?_) (fun c202 => ?_)
      · exact absurd c202 (nk_n3 (by omega))
      · refine lv_iconst (v := nI 1) hx hb dL_law_205 (by decide +kernel) ?_
        refine lv_goto (tgt := 210) hx hb dL_law_206 (by decide) ?_
        refine lv_istore_n (lv' := [(2, .int (nI 1)), (11, .int (nI (gL w9 (f9 + d / 365)))), (10, .int (nI w9)), (9, .int (nI s9)), (0, .ref sb), (1, .ref h0), (3, .int (nI E)), (4, .int (nI 1)), (5, .int (nI T)), (6, .int (nI n)), (7, .int v), (8, .int (nI q))]) hx hb dL_law_210 rfl hl (by decide) rfl (fun ls hl => ?_)
        refine lv_iload hx hb dL_law_211 (lv_at hl 1 rfl) ?_
        refine lv_bipush (v := -3) hx hb dL_law_213 (by decide +kernel) ?_
        refine lv_icmp_ne (tgt := 240) hx hb dL_law_215 (by decide) (fun c215 => ?_) (fun c215 => ?_)
        · refine lv_iload hx hb dL_law_240 (lv_at hl 1 rfl) ?_
          refine nk_if_ltN (tgt := 282) hx hb (by omega) dL_law_242 (by decide) ?_
          refine lv_aload_n hx hb dL_law_245 rfl (lv_at hl 5 rfl) ?_
          refine nk_rd (W.runV (As := []) (rest := []) ⟨hx, hb, hml, hown, hts⟩ (c_X0_worth l D h0 h1 h2 h3 h4 h5 h6 h7 h8 h9 cI cJ d r (lc + 1) d w9 (gL w9 (f9 + d / 365)) k pn (va_up fa lc f9) (va_up e1 lc 0) am dd rt b pd pt tp) (cwV 0 hts gL_law_X0_worth rfl rfl rfl (by decide +kernel) ⟨Nat.le_of_ble_eq_true rfl, Nat.le_of_ble_eq_true rfl⟩) ⟨nk_Pr.blind, va_recv hK hP (ci := 0) (q0 := 0) rfl rfl, fun U hU hW => ⟨rfl, by rw [hU]; exact hP, va_K.moved hW.alike hK⟩⟩ rfl rfl hl.1 rfl (lv_room (Nat.le_of_ble_eq_true rfl)) dL_law_246 ⟨by show cells + 1 + 0 ≤ 125; omega, by show slots + 6 + 0 ≤ 1879; omega⟩) ?_
          refine W.eq (g2 := F0 m 249 ls [.int (nI w9)]) rfl ?_
          refine lv_iload hx hb dL_law_249 (lv_at hl 2 rfl) ?_
          refine nk_icmp_ne (tgt := 282) hx hb (by omega) (by omega) dL_law_251 (by decide) (fun c251 => ?_) (fun c251 => ?_)
          · exfalso; omega
          · refine lv_aload_n hx hb dL_law_254 rfl (lv_at hl 5 rfl) ?_
            refine nk_rd (W.runV (As := []) (rest := []) ⟨hx, hb, hml, hown, hts⟩ (c_X0_room l D h0 h1 h2 h3 h4 h5 h6 h7 h8 h9 cI cJ d r (lc + 1) d w9 (gL w9 (f9 + d / 365)) k pn (va_up fa lc f9) (va_up e1 lc 0) am dd rt b pd pt tp) (cwV 0 hts gL_law_X0_room rfl rfl rfl (by decide +kernel) ⟨Nat.le_of_ble_eq_true rfl, Nat.le_of_ble_eq_true rfl⟩) ⟨nk_Pr.blind, va_recv hK hP (ci := 0) (q0 := 0) rfl rfl, fun U hU hW => ⟨rfl, by rw [hU]; exact hP, va_K.moved hW.alike hK⟩⟩ rfl rfl hl.1 rfl (lv_room (Nat.le_of_ble_eq_true rfl)) dL_law_255 ⟨by show cells + 1 + 0 ≤ 125; omega, by show slots + 6 + 0 ≤ 1879; omega⟩) ?_
            refine W.eq (g2 := F0 m 258 ls [.int (nI (gL w9 (f9 + d / 365)))]) rfl ?_
            refine lv_iload hx hb dL_law_258 (lv_at hl 1 rfl) ?_
            refine nk_icmp_ne (tgt := 282) hx hb (by omega) (by omega) dL_law_260 (by decide) (fun c260 => ?_) (fun c260 => ?_)
            · exfalso; omega
            · refine lv_aload_n hx hb dL_law_263 rfl (lv_at hl 5 rfl) ?_
              refine lv_iload hx hb dL_law_264 (lv_at hl 2 rfl) ?_
              refine lv_bipush (v := nI 55) hx hb dL_law_266 (by decide +kernel) ?_
              refine lv_iconst (v := nI 0) hx hb dL_law_268 (by decide +kernel) ?_
              refine lv_iconst (v := nI 0) hx hb dL_law_269 (by decide +kernel) ?_
              have hZH := hZ.kept hS.2.1
              have hFc := va_free (wc := wX h0 h1 h2 h3 h4 h5 h6 h7 h8 h9 cI cJ d r (lc + 1) d w9 (gL w9 (f9 + d / 365)) k pn (va_up fa lc f9) (va_up e1 lc 0) am dd rt b pd pt tp) hD hS hA [0, 1, 2, 3, 4, 5, 6, 7, 8, 9] rfl
              refine nk_icall (wr := []) (mc := 1) (ms := 6) (vx_runSW (As := [.ref h0, .int (nI w9), .int (nI 55), .int (nI 0), .int (nI 0)]) (rest := []) ⟨hx, hb, hml, hown, hts⟩ (c_L_begin l hfl D h0 h1 h2 h3 h4 h5 h6 h7 h8 h9 cI cJ d r (lc + 1) d w9 (gL w9 (f9 + d / 365)) k pn (va_up fa lc f9) (va_up e1 lc 0) am dd rt b pd pt tp H.size (nI w9) (nI 55) (nI 0) (nI 0) ((w9 : Nat) : Int) ((55 : Nat) : Int) ((0 : Nat) : Int) ((0 : Nat) : Int) w9 55 0 0 (nI_toInt (by omega)) (fun _ => ⟨rfl, by omega⟩) (nI_toInt (by omega)) (fun _ => ⟨rfl, by omega⟩) (nI_toInt (by omega)) (fun _ => ⟨rfl, by omega⟩) (nI_toInt (by omega)) (fun _ => ⟨rfl, by omega⟩) hlc hd hk0 (by omega)) (vx_cwSW 5 hts gL_law_L_begin rfl rfl rfl (by decide +kernel) ⟨Nat.le_of_ble_eq_true rfl, Nat.le_of_ble_eq_true rfl⟩) ⟨nk_Px.blind, fun U hU hW => ⟨rfl, by rw [hU], by rw [hU]; exact hP, va_K.moved hW.alike hK, hD.weaken (fun _ _ _ _ => trivial), by rw [hU]; exact nk_Z.go hZH hW (fun q h => hFc q h)⟩⟩ rfl rfl hl.1 rfl (lv_room (Nat.le_of_ble_eq_true rfl)) dL_law_270 ⟨by show cells + 1 + 1 ≤ 125; omega, by show slots + 6 + 6 ≤ 1879; omega⟩) hP hD hS hA [0, 1, 2, 3, 4, 5, 6, 7, 8, 9] [] rfl rfl rfl (by decide) (fun r270 w1 H locs hw270 hP hD hS hk9 => ?_)
              rcases hw270 with ⟨y1, y2, -⟩ | ⟨rfl, y1, rfl⟩
              · exfalso; omega
              · have hP : va_P D vwCl (wX h0 h1 h2 h3 h4 h5 h6 h7 h8 h9 cI cJ d r (lc + 1) d w9 (gL w9 (f9 + d / 365)) k pn (va_up fa lc f9) (va_up e1 lc 0) am dd rt b pd pt tp) H := hP
                have hD : va_D A (wX h0 h1 h2 h3 h4 h5 h6 h7 h8 h9 cI cJ d r (lc + 1) d w9 (gL w9 (f9 + d / 365)) k pn (va_up fa lc f9) (va_up e1 lc 0) am dd rt b pd pt tp) := hD
                refine lv_bipush (v := -3) hx hb dL_law_273 (by decide +kernel) ?_
                refine lv_icmp_ne (tgt := 282) hx hb dL_law_275 (by decide) (fun c275 => ?_) (fun c275 => ?_)
                · exact absurd rfl c275
                · refine lv_iconst (v := nI 1) hx hb dL_law_278 (by decide +kernel) ?_
                  refine lv_goto (tgt := 283) hx hb dL_law_279 (by decide) ?_
                  refine lv_istore (lv' := [(4, .int (nI 1)), (2, .int (nI 1)), (11, .int (nI (gL w9 (f9 + d / 365)))), (10, .int (nI w9)), (9, .int (nI s9)), (0, .ref sb), (1, .ref h0), (3, .int (nI E)), (5, .int (nI T)), (6, .int (nI n)), (7, .int v), (8, .int (nI q))]) hx hb dL_law_283 hl (by decide) rfl (fun ls hl => ?_)
                  refine lv_iload hx hb dL_law_285 (lv_at hl 4 rfl) ?_
                  refine nk_if_ne (tgt := 294) hx hb (by omega) dL_law_287 (by decide) (fun c287 => ?_) (fun c287 => ?_)
                  · exfalso; omega
                  · refine lv_iconst (v := nI 2) hx hb dL_law_290 (by decide +kernel) ?_
                    refine lv_goto (tgt := 295) hx hb dL_law_291 (by decide) ?_
                    refine lv_istore_n (lv' := [(3, .int (nI 2)), (4, .int (nI 1)), (2, .int (nI 1)), (11, .int (nI (gL w9 (f9 + d / 365)))), (10, .int (nI w9)), (9, .int (nI s9)), (0, .ref sb), (1, .ref h0), (5, .int (nI T)), (6, .int (nI n)), (7, .int v), (8, .int (nI q))]) hx hb dL_law_295 rfl hl (by decide) rfl (fun ls hl => ?_)
                    refine lv_goto (tgt := 583) hx hb dL_law_296 (by decide) ?_
                    refine W.widen (k := cells + 2) (n := slots + 12) (by omega) (by omega) ?_
                    exact kk _ _ _ 1 2 ⟨_, _, _, _, _, _, _, _, _, _, _, _, _, _, _, _, _, _, _, _, _, _, _, hI2, (fun z => by omega), ⟨by omega, by decide, by decide, fun _ => en_one x2⟩, hP, hD⟩ hS (lv_sub hl [6, 7, 2, 0, 1, 8, 9] rfl)
        · exact absurd c215 (nk_n3 (by omega))
    · have hP : va_P D vwCl (wX h0 h1 h2 h3 h4 h5 h6 h7 h8 h9 cI cJ d r (lc + 1) d w9 (gL w9 (f9 + d / 365) - m9) (k + 1) pn (va_up fa lc f9) (va_up e1 lc 0) (va_up am k m9) (va_up dd k d) (va_up rt k r) (va_up b k (m9 * 10000)) pd pt tp) H := hP
      have hD : va_D A (wX h0 h1 h2 h3 h4 h5 h6 h7 h8 h9 cI cJ d r (lc + 1) d w9 (gL w9 (f9 + d / 365) - m9) (k + 1) pn (va_up fa lc f9) (va_up e1 lc 0) (va_up am k m9) (va_up dd k d) (va_up rt k r) (va_up b k (m9 * 10000)) pd pt tp) := hD
      have hg9 : gL w9 (f9 + d / 365) ≤ 5500000 := gL_le (by omega)
      have hI2 : Inv d r (lc + 1) d w9 (gL w9 (f9 + d / 365) - m9) (k + 1) pn (va_up fa lc f9) (va_up e1 lc 0) (va_up am k m9) (va_up dd k d) (va_up rt k r) (va_up b k (m9 * 10000)) pd pt tp (d + 1) (dr + m9) pa pi (va_up (va_up ga 0 f9) 1 s9) e2 := by
        obtain rfl : lc = 0 := x2
        obtain ⟨hk00, hp00, -, -⟩ := hI.2.2.1.2.1 rfl
        subst hk00
        subst hp00
        have hI3 := Inv_begin1 (a3 := s9) hI (by omega : w9 ≤ 10000000) (by omega : 55 ≤ f9 ∧ f9 ≤ 95) hg9
        exact Inv_draw hI3 (a := m9) (by omega) (by decide) (by decide) (alive_up (a := 0) (v := 0) 1 (by decide) up_s)
      obtain ⟨hlc, hd, hk, hpn, hbg, hw, hrm, he, hed, hfa, ham, hpd, hpd2, hpt, hbs, hb9, hrt, hdd, hroll, hh1, hh2, hh3, htp, hsa, hk0, he2, he2d, hga, hgb, hgb2, hpi, hdr, hpa1, he20, he21, hk0m, he28, hgbz, halE, hmxE, hlsE⟩ := Inv_f hI2
      have hbs9 := hbs
      have hbs : sm _ _ < 4611686018427387904 := Nat.lt_trans hbs9 (by decide)
      refine lv_istore (lv' := [(11, .int (nI (gL w9 (f9 + d / 365) - m9))), (10, .int (nI w9)), (9, .int (nI s9)), (0, .ref sb), (1, .ref h0), (2, .int (nI B)), (3, .int (nI E)), (4, .int (nI 1)), (5, .int (nI T)), (6, .int (nI n)), (7, .int v), (8, .int (nI q))]) hx hb dL_law_196 hl (by decide) rfl (fun ls hl => ?_)
      refine lv_iload hx hb dL_law_198 (lv_at hl 0 rfl) ?_
      refine lv_bipush (v := -3) hx hb dL_law_200 (by decide +kernel) ?_
      refine lv_icmp_eq (tgt := 209) hx hb dL_law_202 (by decide) (fun c202 => ?_) (fun c202 => ?_)
      · exact absurd c202 (nk_n3 (by omega))
      · refine lv_iconst (v := nI 1) hx hb dL_law_205 (by decide +kernel) ?_
        refine lv_goto (tgt := 210) hx hb dL_law_206 (by decide) ?_
        refine lv_istore_n (lv' := [(2, .int (nI 1)), (11, .int (nI (gL w9 (f9 + d / 365) - m9))), (10, .int (nI w9)), (9, .int (nI s9)), (0, .ref sb), (1, .ref h0), (3, .int (nI E)), (4, .int (nI 1)), (5, .int (nI T)), (6, .int (nI n)), (7, .int v), (8, .int (nI q))]) hx hb dL_law_210 rfl hl (by decide) rfl (fun ls hl => ?_)
        refine lv_iload hx hb dL_law_211 (lv_at hl 1 rfl) ?_
        refine lv_bipush (v := -3) hx hb dL_law_213 (by decide +kernel) ?_
        refine lv_icmp_ne (tgt := 240) hx hb dL_law_215 (by decide) (fun c215 => ?_) (fun c215 => ?_)
        · refine lv_iload hx hb dL_law_240 (lv_at hl 1 rfl) ?_
          refine nk_if_ltN (tgt := 282) hx hb (by omega) dL_law_242 (by decide) ?_
          refine lv_aload_n hx hb dL_law_245 rfl (lv_at hl 5 rfl) ?_
          refine nk_rd (W.runV (As := []) (rest := []) ⟨hx, hb, hml, hown, hts⟩ (c_X0_worth l D h0 h1 h2 h3 h4 h5 h6 h7 h8 h9 cI cJ d r (lc + 1) d w9 (gL w9 (f9 + d / 365) - m9) (k + 1) pn (va_up fa lc f9) (va_up e1 lc 0) (va_up am k m9) (va_up dd k d) (va_up rt k r) (va_up b k (m9 * 10000)) pd pt tp) (cwV 0 hts gL_law_X0_worth rfl rfl rfl (by decide +kernel) ⟨Nat.le_of_ble_eq_true rfl, Nat.le_of_ble_eq_true rfl⟩) ⟨nk_Pr.blind, va_recv hK hP (ci := 0) (q0 := 0) rfl rfl, fun U hU hW => ⟨rfl, by rw [hU]; exact hP, va_K.moved hW.alike hK⟩⟩ rfl rfl hl.1 rfl (lv_room (Nat.le_of_ble_eq_true rfl)) dL_law_246 ⟨by show cells + 1 + 0 ≤ 125; omega, by show slots + 6 + 0 ≤ 1879; omega⟩) ?_
          refine W.eq (g2 := F0 m 249 ls [.int (nI w9)]) rfl ?_
          refine lv_iload hx hb dL_law_249 (lv_at hl 2 rfl) ?_
          refine nk_icmp_ne (tgt := 282) hx hb (by omega) (by omega) dL_law_251 (by decide) (fun c251 => ?_) (fun c251 => ?_)
          · exfalso; omega
          · refine lv_aload_n hx hb dL_law_254 rfl (lv_at hl 5 rfl) ?_
            refine nk_rd (W.runV (As := []) (rest := []) ⟨hx, hb, hml, hown, hts⟩ (c_X0_room l D h0 h1 h2 h3 h4 h5 h6 h7 h8 h9 cI cJ d r (lc + 1) d w9 (gL w9 (f9 + d / 365) - m9) (k + 1) pn (va_up fa lc f9) (va_up e1 lc 0) (va_up am k m9) (va_up dd k d) (va_up rt k r) (va_up b k (m9 * 10000)) pd pt tp) (cwV 0 hts gL_law_X0_room rfl rfl rfl (by decide +kernel) ⟨Nat.le_of_ble_eq_true rfl, Nat.le_of_ble_eq_true rfl⟩) ⟨nk_Pr.blind, va_recv hK hP (ci := 0) (q0 := 0) rfl rfl, fun U hU hW => ⟨rfl, by rw [hU]; exact hP, va_K.moved hW.alike hK⟩⟩ rfl rfl hl.1 rfl (lv_room (Nat.le_of_ble_eq_true rfl)) dL_law_255 ⟨by show cells + 1 + 0 ≤ 125; omega, by show slots + 6 + 0 ≤ 1879; omega⟩) ?_
            refine W.eq (g2 := F0 m 258 ls [.int (nI (gL w9 (f9 + d / 365) - m9))]) rfl ?_
            refine lv_iload hx hb dL_law_258 (lv_at hl 1 rfl) ?_
            refine nk_icmp_ne (tgt := 282) hx hb (by omega) (by omega) dL_law_260 (by decide) (fun c260 => ?_) (fun c260 => ?_)
            · exfalso; omega
            · refine lv_aload_n hx hb dL_law_263 rfl (lv_at hl 5 rfl) ?_
              refine lv_iload hx hb dL_law_264 (lv_at hl 2 rfl) ?_
              refine lv_bipush (v := nI 55) hx hb dL_law_266 (by decide +kernel) ?_
              refine lv_iconst (v := nI 0) hx hb dL_law_268 (by decide +kernel) ?_
              refine lv_iconst (v := nI 0) hx hb dL_law_269 (by decide +kernel) ?_
              have hZH := hZ.kept hS.2.1
              have hFc := va_free (wc := wX h0 h1 h2 h3 h4 h5 h6 h7 h8 h9 cI cJ d r (lc + 1) d w9 (gL w9 (f9 + d / 365) - m9) (k + 1) pn (va_up fa lc f9) (va_up e1 lc 0) (va_up am k m9) (va_up dd k d) (va_up rt k r) (va_up b k (m9 * 10000)) pd pt tp) hD hS hA [0, 1, 2, 3, 4, 5, 6, 7, 8, 9] rfl
              refine nk_icall (wr := []) (mc := 1) (ms := 6) (vx_runSW (As := [.ref h0, .int (nI w9), .int (nI 55), .int (nI 0), .int (nI 0)]) (rest := []) ⟨hx, hb, hml, hown, hts⟩ (c_L_begin l hfl D h0 h1 h2 h3 h4 h5 h6 h7 h8 h9 cI cJ d r (lc + 1) d w9 (gL w9 (f9 + d / 365) - m9) (k + 1) pn (va_up fa lc f9) (va_up e1 lc 0) (va_up am k m9) (va_up dd k d) (va_up rt k r) (va_up b k (m9 * 10000)) pd pt tp H.size (nI w9) (nI 55) (nI 0) (nI 0) ((w9 : Nat) : Int) ((55 : Nat) : Int) ((0 : Nat) : Int) ((0 : Nat) : Int) w9 55 0 0 (nI_toInt (by omega)) (fun _ => ⟨rfl, by omega⟩) (nI_toInt (by omega)) (fun _ => ⟨rfl, by omega⟩) (nI_toInt (by omega)) (fun _ => ⟨rfl, by omega⟩) (nI_toInt (by omega)) (fun _ => ⟨rfl, by omega⟩) hlc hd hk0 (by omega)) (vx_cwSW 5 hts gL_law_L_begin rfl rfl rfl (by decide +kernel) ⟨Nat.le_of_ble_eq_true rfl, Nat.le_of_ble_eq_true rfl⟩) ⟨nk_Px.blind, fun U hU hW => ⟨rfl, by rw [hU], by rw [hU]; exact hP, va_K.moved hW.alike hK, hD.weaken (fun _ _ _ _ => trivial), by rw [hU]; exact nk_Z.go hZH hW (fun q h => hFc q h)⟩⟩ rfl rfl hl.1 rfl (lv_room (Nat.le_of_ble_eq_true rfl)) dL_law_270 ⟨by show cells + 1 + 1 ≤ 125; omega, by show slots + 6 + 6 ≤ 1879; omega⟩) hP hD hS hA [0, 1, 2, 3, 4, 5, 6, 7, 8, 9] [] rfl rfl rfl (by decide) (fun r270 w1 H locs hw270 hP hD hS hk9 => ?_)
              rcases hw270 with ⟨y1, y2, -⟩ | ⟨rfl, y1, rfl⟩
              · exfalso; omega
              · have hP : va_P D vwCl (wX h0 h1 h2 h3 h4 h5 h6 h7 h8 h9 cI cJ d r (lc + 1) d w9 (gL w9 (f9 + d / 365) - m9) (k + 1) pn (va_up fa lc f9) (va_up e1 lc 0) (va_up am k m9) (va_up dd k d) (va_up rt k r) (va_up b k (m9 * 10000)) pd pt tp) H := hP
                have hD : va_D A (wX h0 h1 h2 h3 h4 h5 h6 h7 h8 h9 cI cJ d r (lc + 1) d w9 (gL w9 (f9 + d / 365) - m9) (k + 1) pn (va_up fa lc f9) (va_up e1 lc 0) (va_up am k m9) (va_up dd k d) (va_up rt k r) (va_up b k (m9 * 10000)) pd pt tp) := hD
                refine lv_bipush (v := -3) hx hb dL_law_273 (by decide +kernel) ?_
                refine lv_icmp_ne (tgt := 282) hx hb dL_law_275 (by decide) (fun c275 => ?_) (fun c275 => ?_)
                · exact absurd rfl c275
                · refine lv_iconst (v := nI 1) hx hb dL_law_278 (by decide +kernel) ?_
                  refine lv_goto (tgt := 283) hx hb dL_law_279 (by decide) ?_
                  refine lv_istore (lv' := [(4, .int (nI 1)), (2, .int (nI 1)), (11, .int (nI (gL w9 (f9 + d / 365) - m9))), (10, .int (nI w9)), (9, .int (nI s9)), (0, .ref sb), (1, .ref h0), (3, .int (nI E)), (5, .int (nI T)), (6, .int (nI n)), (7, .int v), (8, .int (nI q))]) hx hb dL_law_283 hl (by decide) rfl (fun ls hl => ?_)
                  refine lv_iload hx hb dL_law_285 (lv_at hl 4 rfl) ?_
                  refine nk_if_ne (tgt := 294) hx hb (by omega) dL_law_287 (by decide) (fun c287 => ?_) (fun c287 => ?_)
                  · exfalso; omega
                  · refine lv_iconst (v := nI 2) hx hb dL_law_290 (by decide +kernel) ?_
                    refine lv_goto (tgt := 295) hx hb dL_law_291 (by decide) ?_
                    refine lv_istore_n (lv' := [(3, .int (nI 2)), (4, .int (nI 1)), (2, .int (nI 1)), (11, .int (nI (gL w9 (f9 + d / 365) - m9))), (10, .int (nI w9)), (9, .int (nI s9)), (0, .ref sb), (1, .ref h0), (5, .int (nI T)), (6, .int (nI n)), (7, .int v), (8, .int (nI q))]) hx hb dL_law_295 rfl hl (by decide) rfl (fun ls hl => ?_)
                    refine lv_goto (tgt := 583) hx hb dL_law_296 (by decide) ?_
                    refine W.widen (k := cells + 2) (n := slots + 12) (by omega) (by omega) ?_
                    exact kk _ _ _ 1 2 ⟨_, _, _, _, _, _, _, _, _, _, _, _, _, _, _, _, _, _, _, _, _, _, _, hI2, (fun z => by omega), ⟨by omega, by decide, by decide, fun _ => en_one x2⟩, hP, hD⟩ hS (lv_sub hl [6, 7, 2, 0, 1, 8, 9] rfl)
        · exact absurd c215 (nk_n3 (by omega))
    · have hP : va_P D vwCl (wX h0 h1 h2 h3 h4 h5 h6 h7 h8 h9 cI cJ d r (lc + 1 + 1) d w9 (gL w9 (min f9 s9 + d / 365)) k pn (va_up (va_up fa lc f9) (lc + 1) s9) (va_up (va_up e1 lc 0) (lc + 1) 0) am dd rt b pd pt tp) H := hP
      have hD : va_D A (wX h0 h1 h2 h3 h4 h5 h6 h7 h8 h9 cI cJ d r (lc + 1 + 1) d w9 (gL w9 (min f9 s9 + d / 365)) k pn (va_up (va_up fa lc f9) (lc + 1) s9) (va_up (va_up e1 lc 0) (lc + 1) 0) am dd rt b pd pt tp) := hD
      have hg9 : gL w9 (min f9 s9 + d / 365) ≤ 5500000 := gL_le (by omega)
      have hI2 : Inv d r (lc + 1 + 1) d w9 (gL w9 (min f9 s9 + d / 365)) k pn (va_up (va_up fa lc f9) (lc + 1) s9) (va_up (va_up e1 lc 0) (lc + 1) 0) am dd rt b pd pt tp (d + 1) dr pa pi (va_up (va_up ga 0 f9) 1 s9) e2 := by
        obtain rfl : lc = 0 := x2
        obtain ⟨hk00, hp00, -, -⟩ := hI.2.2.1.2.1 rfl
        subst hk00
        subst hp00
        exact Inv_begin2 (a3 := s9) hI (by omega : w9 ≤ 10000000) (by omega : 55 ≤ f9 ∧ f9 ≤ 95) (by omega : 55 ≤ s9 ∧ s9 ≤ 95) hg9
      obtain ⟨hlc, hd, hk, hpn, hbg, hw, hrm, he, hed, hfa, ham, hpd, hpd2, hpt, hbs, hb9, hrt, hdd, hroll, hh1, hh2, hh3, htp, hsa, hk0, he2, he2d, hga, hgb, hgb2, hpi, hdr, hpa1, he20, he21, hk0m, he28, hgbz, halE, hmxE, hlsE⟩ := Inv_f hI2
      have hbs9 := hbs
      have hbs : sm _ _ < 4611686018427387904 := Nat.lt_trans hbs9 (by decide)
      refine lv_istore (lv' := [(11, .int (nI (gL w9 (min f9 s9 + d / 365)))), (10, .int (nI w9)), (9, .int (nI s9)), (0, .ref sb), (1, .ref h0), (2, .int (nI B)), (3, .int (nI E)), (4, .int (nI 1)), (5, .int (nI T)), (6, .int (nI n)), (7, .int v), (8, .int (nI q))]) hx hb dL_law_196 hl (by decide) rfl (fun ls hl => ?_)
      refine lv_iload hx hb dL_law_198 (lv_at hl 0 rfl) ?_
      refine lv_bipush (v := -3) hx hb dL_law_200 (by decide +kernel) ?_
      refine lv_icmp_eq (tgt := 209) hx hb dL_law_202 (by decide) (fun c202 => ?_) (fun c202 => ?_)
      · exact absurd c202 (nk_n3 (by omega))
      · refine lv_iconst (v := nI 1) hx hb dL_law_205 (by decide +kernel) ?_
        refine lv_goto (tgt := 210) hx hb dL_law_206 (by decide) ?_
        refine lv_istore_n (lv' := [(2, .int (nI 1)), (11, .int (nI (gL w9 (min f9 s9 + d / 365)))), (10, .int (nI w9)), (9, .int (nI s9)), (0, .ref sb), (1, .ref h0), (3, .int (nI E)), (4, .int (nI 1)), (5, .int (nI T)), (6, .int (nI n)), (7, .int v), (8, .int (nI q))]) hx hb dL_law_210 rfl hl (by decide) rfl (fun ls hl => ?_)
        refine lv_iload hx hb dL_law_211 (lv_at hl 1 rfl) ?_
        refine lv_bipush (v := -3) hx hb dL_law_213 (by decide +kernel) ?_
        refine lv_icmp_ne (tgt := 240) hx hb dL_law_215 (by decide) (fun c215 => ?_) (fun c215 => ?_)
        · refine lv_iload hx hb dL_law_240 (lv_at hl 1 rfl) ?_
          refine nk_if_ltN (tgt := 282) hx hb (by omega) dL_law_242 (by decide) ?_
          refine lv_aload_n hx hb dL_law_245 rfl (lv_at hl 5 rfl) ?_
          refine nk_rd (W.runV (As := []) (rest := []) ⟨hx, hb, hml, hown, hts⟩ (c_X0_worth l D h0 h1 h2 h3 h4 h5 h6 h7 h8 h9 cI cJ d r (lc + 1 + 1) d w9 (gL w9 (min f9 s9 + d / 365)) k pn (va_up (va_up fa lc f9) (lc + 1) s9) (va_up (va_up e1 lc 0) (lc + 1) 0) am dd rt b pd pt tp) (cwV 0 hts gL_law_X0_worth rfl rfl rfl (by decide +kernel) ⟨Nat.le_of_ble_eq_true rfl, Nat.le_of_ble_eq_true rfl⟩) ⟨nk_Pr.blind, va_recv hK hP (ci := 0) (q0 := 0) rfl rfl, fun U hU hW => ⟨rfl, by rw [hU]; exact hP, va_K.moved hW.alike hK⟩⟩ rfl rfl hl.1 rfl (lv_room (Nat.le_of_ble_eq_true rfl)) dL_law_246 ⟨by show cells + 1 + 0 ≤ 125; omega, by show slots + 6 + 0 ≤ 1879; omega⟩) ?_
          refine W.eq (g2 := F0 m 249 ls [.int (nI w9)]) rfl ?_
          refine lv_iload hx hb dL_law_249 (lv_at hl 2 rfl) ?_
          refine nk_icmp_ne (tgt := 282) hx hb (by omega) (by omega) dL_law_251 (by decide) (fun c251 => ?_) (fun c251 => ?_)
          · exfalso; omega
          · refine lv_aload_n hx hb dL_law_254 rfl (lv_at hl 5 rfl) ?_
            refine nk_rd (W.runV (As := []) (rest := []) ⟨hx, hb, hml, hown, hts⟩ (c_X0_room l D h0 h1 h2 h3 h4 h5 h6 h7 h8 h9 cI cJ d r (lc + 1 + 1) d w9 (gL w9 (min f9 s9 + d / 365)) k pn (va_up (va_up fa lc f9) (lc + 1) s9) (va_up (va_up e1 lc 0) (lc + 1) 0) am dd rt b pd pt tp) (cwV 0 hts gL_law_X0_room rfl rfl rfl (by decide +kernel) ⟨Nat.le_of_ble_eq_true rfl, Nat.le_of_ble_eq_true rfl⟩) ⟨nk_Pr.blind, va_recv hK hP (ci := 0) (q0 := 0) rfl rfl, fun U hU hW => ⟨rfl, by rw [hU]; exact hP, va_K.moved hW.alike hK⟩⟩ rfl rfl hl.1 rfl (lv_room (Nat.le_of_ble_eq_true rfl)) dL_law_255 ⟨by show cells + 1 + 0 ≤ 125; omega, by show slots + 6 + 0 ≤ 1879; omega⟩) ?_
            refine W.eq (g2 := F0 m 258 ls [.int (nI (gL w9 (min f9 s9 + d / 365)))]) rfl ?_
            refine lv_iload hx hb dL_law_258 (lv_at hl 1 rfl) ?_
            refine nk_icmp_ne (tgt := 282) hx hb (by omega) (by omega) dL_law_260 (by decide) (fun c260 => ?_) (fun c260 => ?_)
            · exfalso; omega
            · refine lv_aload_n hx hb dL_law_263 rfl (lv_at hl 5 rfl) ?_
              refine lv_iload hx hb dL_law_264 (lv_at hl 2 rfl) ?_
              refine lv_bipush (v := nI 55) hx hb dL_law_266 (by decide +kernel) ?_
              refine lv_iconst (v := nI 0) hx hb dL_law_268 (by decide +kernel) ?_
              refine lv_iconst (v := nI 0) hx hb dL_law_269 (by decide +kernel) ?_
              have hZH := hZ.kept hS.2.1
              have hFc := va_free (wc := wX h0 h1 h2 h3 h4 h5 h6 h7 h8 h9 cI cJ d r (lc + 1 + 1) d w9 (gL w9 (min f9 s9 + d / 365)) k pn (va_up (va_up fa lc f9) (lc + 1) s9) (va_up (va_up e1 lc 0) (lc + 1) 0) am dd rt b pd pt tp) hD hS hA [0, 1, 2, 3, 4, 5, 6, 7, 8, 9] rfl
              refine nk_icall (wr := []) (mc := 1) (ms := 6) (vx_runSW (As := [.ref h0, .int (nI w9), .int (nI 55), .int (nI 0), .int (nI 0)]) (rest := []) ⟨hx, hb, hml, hown, hts⟩ (c_L_begin l hfl D h0 h1 h2 h3 h4 h5 h6 h7 h8 h9 cI cJ d r (lc + 1 + 1) d w9 (gL w9 (min f9 s9 + d / 365)) k pn (va_up (va_up fa lc f9) (lc + 1) s9) (va_up (va_up e1 lc 0) (lc + 1) 0) am dd rt b pd pt tp H.size (nI w9) (nI 55) (nI 0) (nI 0) ((w9 : Nat) : Int) ((55 : Nat) : Int) ((0 : Nat) : Int) ((0 : Nat) : Int) w9 55 0 0 (nI_toInt (by omega)) (fun _ => ⟨rfl, by omega⟩) (nI_toInt (by omega)) (fun _ => ⟨rfl, by omega⟩) (nI_toInt (by omega)) (fun _ => ⟨rfl, by omega⟩) (nI_toInt (by omega)) (fun _ => ⟨rfl, by omega⟩) hlc hd hk0 (by omega)) (vx_cwSW 5 hts gL_law_L_begin rfl rfl rfl (by decide +kernel) ⟨Nat.le_of_ble_eq_true rfl, Nat.le_of_ble_eq_true rfl⟩) ⟨nk_Px.blind, fun U hU hW => ⟨rfl, by rw [hU], by rw [hU]; exact hP, va_K.moved hW.alike hK, hD.weaken (fun _ _ _ _ => trivial), by rw [hU]; exact nk_Z.go hZH hW (fun q h => hFc q h)⟩⟩ rfl rfl hl.1 rfl (lv_room (Nat.le_of_ble_eq_true rfl)) dL_law_270 ⟨by show cells + 1 + 1 ≤ 125; omega, by show slots + 6 + 6 ≤ 1879; omega⟩) hP hD hS hA [0, 1, 2, 3, 4, 5, 6, 7, 8, 9] [] rfl rfl rfl (by decide) (fun r270 w1 H locs hw270 hP hD hS hk9 => ?_)
              rcases hw270 with ⟨y1, y2, -⟩ | ⟨rfl, y1, rfl⟩
              · exfalso; omega
              · have hP : va_P D vwCl (wX h0 h1 h2 h3 h4 h5 h6 h7 h8 h9 cI cJ d r (lc + 1 + 1) d w9 (gL w9 (min f9 s9 + d / 365)) k pn (va_up (va_up fa lc f9) (lc + 1) s9) (va_up (va_up e1 lc 0) (lc + 1) 0) am dd rt b pd pt tp) H := hP
                have hD : va_D A (wX h0 h1 h2 h3 h4 h5 h6 h7 h8 h9 cI cJ d r (lc + 1 + 1) d w9 (gL w9 (min f9 s9 + d / 365)) k pn (va_up (va_up fa lc f9) (lc + 1) s9) (va_up (va_up e1 lc 0) (lc + 1) 0) am dd rt b pd pt tp) := hD
                refine lv_bipush (v := -3) hx hb dL_law_273 (by decide +kernel) ?_
                refine lv_icmp_ne (tgt := 282) hx hb dL_law_275 (by decide) (fun c275 => ?_) (fun c275 => ?_)
                · exact absurd rfl c275
                · refine lv_iconst (v := nI 1) hx hb dL_law_278 (by decide +kernel) ?_
                  refine lv_goto (tgt := 283) hx hb dL_law_279 (by decide) ?_
                  refine lv_istore (lv' := [(4, .int (nI 1)), (2, .int (nI 1)), (11, .int (nI (gL w9 (min f9 s9 + d / 365)))), (10, .int (nI w9)), (9, .int (nI s9)), (0, .ref sb), (1, .ref h0), (3, .int (nI E)), (5, .int (nI T)), (6, .int (nI n)), (7, .int v), (8, .int (nI q))]) hx hb dL_law_283 hl (by decide) rfl (fun ls hl => ?_)
                  refine lv_iload hx hb dL_law_285 (lv_at hl 4 rfl) ?_
                  refine nk_if_ne (tgt := 294) hx hb (by omega) dL_law_287 (by decide) (fun c287 => ?_) (fun c287 => ?_)
                  · refine lv_iconst (v := nI 0) hx hb dL_law_294 (by decide +kernel) ?_
                    refine lv_istore_n (lv' := [(3, .int (nI 0)), (4, .int (nI 1)), (2, .int (nI 1)), (11, .int (nI (gL w9 (min f9 s9 + d / 365)))), (10, .int (nI w9)), (9, .int (nI s9)), (0, .ref sb), (1, .ref h0), (5, .int (nI T)), (6, .int (nI n)), (7, .int v), (8, .int (nI q))]) hx hb dL_law_295 rfl hl (by decide) rfl (fun ls hl => ?_)
                    refine lv_goto (tgt := 583) hx hb dL_law_296 (by decide) ?_
                    refine W.widen (k := cells + 2) (n := slots + 12) (by omega) (by omega) ?_
                    exact kk _ _ _ 1 0 ⟨_, _, _, _, _, _, _, _, _, _, _, _, _, _, _, _, _, _, _, _, _, _, _, hI2, (fun z => by omega), ⟨by omega, by decide, by decide, fun _ => en_two x2⟩, hP, hD⟩ hS (lv_sub hl [6, 7, 2, 0, 1, 8, 9] rfl)
                  · exfalso; omega
        · exact absurd c215 (nk_n3 (by omega))
    · have hP : va_P D vwCl (wX h0 h1 h2 h3 h4 h5 h6 h7 h8 h9 cI cJ d r (lc + 1 + 1) d w9 (gL w9 (min f9 s9 + d / 365) - m9) (k + 1) pn (va_up (va_up fa lc f9) (lc + 1) s9) (va_up (va_up e1 lc 0) (lc + 1) 0) (va_up am k m9) (va_up dd k d) (va_up rt k r) (va_up b k (m9 * 10000)) pd pt tp) H := hP
      have hD : va_D A (wX h0 h1 h2 h3 h4 h5 h6 h7 h8 h9 cI cJ d r (lc + 1 + 1) d w9 (gL w9 (min f9 s9 + d / 365) - m9) (k + 1) pn (va_up (va_up fa lc f9) (lc + 1) s9) (va_up (va_up e1 lc 0) (lc + 1) 0) (va_up am k m9) (va_up dd k d) (va_up rt k r) (va_up b k (m9 * 10000)) pd pt tp) := hD
      have hg9 : gL w9 (min f9 s9 + d / 365) ≤ 5500000 := gL_le (by omega)
      have hI2 : Inv d r (lc + 1 + 1) d w9 (gL w9 (min f9 s9 + d / 365) - m9) (k + 1) pn (va_up (va_up fa lc f9) (lc + 1) s9) (va_up (va_up e1 lc 0) (lc + 1) 0) (va_up am k m9) (va_up dd k d) (va_up rt k r) (va_up b k (m9 * 10000)) pd pt tp (d + 1) (dr + m9) pa pi (va_up (va_up ga 0 f9) 1 s9) e2 := by
        obtain rfl : lc = 0 := x2
        obtain ⟨hk00, hp00, -, -⟩ := hI.2.2.1.2.1 rfl
        subst hk00
        subst hp00
        have hI3 := Inv_begin2 (a3 := s9) hI (by omega : w9 ≤ 10000000) (by omega : 55 ≤ f9 ∧ f9 ≤ 95) (by omega : 55 ≤ s9 ∧ s9 ≤ 95) hg9
        exact Inv_draw hI3 (a := m9) (by omega) (by decide) (by decide) (alive_up (a := 1) (v := 0) 2 (by decide) up_s)
      obtain ⟨hlc, hd, hk, hpn, hbg, hw, hrm, he, hed, hfa, ham, hpd, hpd2, hpt, hbs, hb9, hrt, hdd, hroll, hh1, hh2, hh3, htp, hsa, hk0, he2, he2d, hga, hgb, hgb2, hpi, hdr, hpa1, he20, he21, hk0m, he28, hgbz, halE, hmxE, hlsE⟩ := Inv_f hI2
      have hbs9 := hbs
      have hbs : sm _ _ < 4611686018427387904 := Nat.lt_trans hbs9 (by decide)
      refine lv_istore (lv' := [(11, .int (nI (gL w9 (min f9 s9 + d / 365) - m9))), (10, .int (nI w9)), (9, .int (nI s9)), (0, .ref sb), (1, .ref h0), (2, .int (nI B)), (3, .int (nI E)), (4, .int (nI 1)), (5, .int (nI T)), (6, .int (nI n)), (7, .int v), (8, .int (nI q))]) hx hb dL_law_196 hl (by decide) rfl (fun ls hl => ?_)
      refine lv_iload hx hb dL_law_198 (lv_at hl 0 rfl) ?_
      refine lv_bipush (v := -3) hx hb dL_law_200 (by decide +kernel) ?_
      refine lv_icmp_eq (tgt := 209) hx hb dL_law_202 (by decide) (fun c202 => ?_) (fun c202 => ?_)
      · exact absurd c202 (nk_n3 (by omega))
      · refine lv_iconst (v := nI 1) hx hb dL_law_205 (by decide +kernel) ?_
        refine lv_goto (tgt := 210) hx hb dL_law_206 (by decide) ?_
        refine lv_istore_n (lv' := [(2, .int (nI 1)), (11, .int (nI (gL w9 (min f9 s9 + d / 365) - m9))), (10, .int (nI w9)), (9, .int (nI s9)), (0, .ref sb), (1, .ref h0), (3, .int (nI E)), (4, .int (nI 1)), (5, .int (nI T)), (6, .int (nI n)), (7, .int v), (8, .int (nI q))]) hx hb dL_law_210 rfl hl (by decide) rfl (fun ls hl => ?_)
        refine lv_iload hx hb dL_law_211 (lv_at hl 1 rfl) ?_
        refine lv_bipush (v := -3) hx hb dL_law_213 (by decide +kernel) ?_
        refine lv_icmp_ne (tgt := 240) hx hb dL_law_215 (by decide) (fun c215 => ?_) (fun c215 => ?_)
        · refine lv_iload hx hb dL_law_240 (lv_at hl 1 rfl) ?_
          refine nk_if_ltN (tgt := 282) hx hb (by omega) dL_law_242 (by decide) ?_
          refine lv_aload_n hx hb dL_law_245 rfl (lv_at hl 5 rfl) ?_
          refine nk_rd (W.runV (As := []) (rest := []) ⟨hx, hb, hml, hown, hts⟩ (c_X0_worth l D h0 h1 h2 h3 h4 h5 h6 h7 h8 h9 cI cJ d r (lc + 1 + 1) d w9 (gL w9 (min f9 s9 + d / 365) - m9) (k + 1) pn (va_up (va_up fa lc f9) (lc + 1) s9) (va_up (va_up e1 lc 0) (lc + 1) 0) (va_up am k m9) (va_up dd k d) (va_up rt k r) (va_up b k (m9 * 10000)) pd pt tp) (cwV 0 hts gL_law_X0_worth rfl rfl rfl (by decide +kernel) ⟨Nat.le_of_ble_eq_true rfl, Nat.le_of_ble_eq_true rfl⟩) ⟨nk_Pr.blind, va_recv hK hP (ci := 0) (q0 := 0) rfl rfl, fun U hU hW => ⟨rfl, by rw [hU]; exact hP, va_K.moved hW.alike hK⟩⟩ rfl rfl hl.1 rfl (lv_room (Nat.le_of_ble_eq_true rfl)) dL_law_246 ⟨by show cells + 1 + 0 ≤ 125; omega, by show slots + 6 + 0 ≤ 1879; omega⟩) ?_
          refine W.eq (g2 := F0 m 249 ls [.int (nI w9)]) rfl ?_
          refine lv_iload hx hb dL_law_249 (lv_at hl 2 rfl) ?_
          refine nk_icmp_ne (tgt := 282) hx hb (by omega) (by omega) dL_law_251 (by decide) (fun c251 => ?_) (fun c251 => ?_)
          · exfalso; omega
          · refine lv_aload_n hx hb dL_law_254 rfl (lv_at hl 5 rfl) ?_
            refine nk_rd (W.runV (As := []) (rest := []) ⟨hx, hb, hml, hown, hts⟩ (c_X0_room l D h0 h1 h2 h3 h4 h5 h6 h7 h8 h9 cI cJ d r (lc + 1 + 1) d w9 (gL w9 (min f9 s9 + d / 365) - m9) (k + 1) pn (va_up (va_up fa lc f9) (lc + 1) s9) (va_up (va_up e1 lc 0) (lc + 1) 0) (va_up am k m9) (va_up dd k d) (va_up rt k r) (va_up b k (m9 * 10000)) pd pt tp) (cwV 0 hts gL_law_X0_room rfl rfl rfl (by decide +kernel) ⟨Nat.le_of_ble_eq_true rfl, Nat.le_of_ble_eq_true rfl⟩) ⟨nk_Pr.blind, va_recv hK hP (ci := 0) (q0 := 0) rfl rfl, fun U hU hW => ⟨rfl, by rw [hU]; exact hP, va_K.moved hW.alike hK⟩⟩ rfl rfl hl.1 rfl (lv_room (Nat.le_of_ble_eq_true rfl)) dL_law_255 ⟨by show cells + 1 + 0 ≤ 125; omega, by show slots + 6 + 0 ≤ 1879; omega⟩) ?_
            refine W.eq (g2 := F0 m 258 ls [.int (nI (gL w9 (min f9 s9 + d / 365) - m9))]) rfl ?_
            refine lv_iload hx hb dL_law_258 (lv_at hl 1 rfl) ?_
            refine nk_icmp_ne (tgt := 282) hx hb (by omega) (by omega) dL_law_260 (by decide) (fun c260 => ?_) (fun c260 => ?_)
            · exfalso; omega
            · refine lv_aload_n hx hb dL_law_263 rfl (lv_at hl 5 rfl) ?_
              refine lv_iload hx hb dL_law_264 (lv_at hl 2 rfl) ?_
              refine lv_bipush (v := nI 55) hx hb dL_law_266 (by decide +kernel) ?_
              refine lv_iconst (v := nI 0) hx hb dL_law_268 (by decide +kernel) ?_
              refine lv_iconst (v := nI 0) hx hb dL_law_269 (by decide +kernel) ?_
              have hZH := hZ.kept hS.2.1
              have hFc := va_free (wc := wX h0 h1 h2 h3 h4 h5 h6 h7 h8 h9 cI cJ d r (lc + 1 + 1) d w9 (gL w9 (min f9 s9 + d / 365) - m9) (k + 1) pn (va_up (va_up fa lc f9) (lc + 1) s9) (va_up (va_up e1 lc 0) (lc + 1) 0) (va_up am k m9) (va_up dd k d) (va_up rt k r) (va_up b k (m9 * 10000)) pd pt tp) hD hS hA [0, 1, 2, 3, 4, 5, 6, 7, 8, 9] rfl
              refine nk_icall (wr := []) (mc := 1) (ms := 6) (vx_runSW (As := [.ref h0, .int (nI w9), .int (nI 55), .int (nI 0), .int (nI 0)]) (rest := []) ⟨hx, hb, hml, hown, hts⟩ (c_L_begin l hfl D h0 h1 h2 h3 h4 h5 h6 h7 h8 h9 cI cJ d r (lc + 1 + 1) d w9 (gL w9 (min f9 s9 + d / 365) - m9) (k + 1) pn (va_up (va_up fa lc f9) (lc + 1) s9) (va_up (va_up e1 lc 0) (lc + 1) 0) (va_up am k m9) (va_up dd k d) (va_up rt k r) (va_up b k (m9 * 10000)) pd pt tp H.size (nI w9) (nI 55) (nI 0) (nI 0) ((w9 : Nat) : Int) ((55 : Nat) : Int) ((0 : Nat) : Int) ((0 : Nat) : Int) w9 55 0 0 (nI_toInt (by omega)) (fun _ => ⟨rfl, by omega⟩) (nI_toInt (by omega)) (fun _ => ⟨rfl, by omega⟩) (nI_toInt (by omega)) (fun _ => ⟨rfl, by omega⟩) (nI_toInt (by omega)) (fun _ => ⟨rfl, by omega⟩) hlc hd hk0 (by omega)) (vx_cwSW 5 hts gL_law_L_begin rfl rfl rfl (by decide +kernel) ⟨Nat.le_of_ble_eq_true rfl, Nat.le_of_ble_eq_true rfl⟩) ⟨nk_Px.blind, fun U hU hW => ⟨rfl, by rw [hU], by rw [hU]; exact hP, va_K.moved hW.alike hK, hD.weaken (fun _ _ _ _ => trivial), by rw [hU]; exact nk_Z.go hZH hW (fun q h => hFc q h)⟩⟩ rfl rfl hl.1 rfl (lv_room (Nat.le_of_ble_eq_true rfl)) dL_law_270 ⟨by show cells + 1 + 1 ≤ 125; omega, by show slots + 6 + 6 ≤ 1879; omega⟩) hP hD hS hA [0, 1, 2, 3, 4, 5, 6, 7, 8, 9] [] rfl rfl rfl (by decide) (fun r270 w1 H locs hw270 hP hD hS hk9 => ?_)
              rcases hw270 with ⟨y1, y2, -⟩ | ⟨rfl, y1, rfl⟩
              · exfalso; omega
              · have hP : va_P D vwCl (wX h0 h1 h2 h3 h4 h5 h6 h7 h8 h9 cI cJ d r (lc + 1 + 1) d w9 (gL w9 (min f9 s9 + d / 365) - m9) (k + 1) pn (va_up (va_up fa lc f9) (lc + 1) s9) (va_up (va_up e1 lc 0) (lc + 1) 0) (va_up am k m9) (va_up dd k d) (va_up rt k r) (va_up b k (m9 * 10000)) pd pt tp) H := hP
                have hD : va_D A (wX h0 h1 h2 h3 h4 h5 h6 h7 h8 h9 cI cJ d r (lc + 1 + 1) d w9 (gL w9 (min f9 s9 + d / 365) - m9) (k + 1) pn (va_up (va_up fa lc f9) (lc + 1) s9) (va_up (va_up e1 lc 0) (lc + 1) 0) (va_up am k m9) (va_up dd k d) (va_up rt k r) (va_up b k (m9 * 10000)) pd pt tp) := hD
                refine lv_bipush (v := -3) hx hb dL_law_273 (by decide +kernel) ?_
                refine lv_icmp_ne (tgt := 282) hx hb dL_law_275 (by decide) (fun c275 => ?_) (fun c275 => ?_)
                · exact absurd rfl c275
                · refine lv_iconst (v := nI 1) hx hb dL_law_278 (by decide +kernel) ?_
                  refine lv_goto (tgt := 283) hx hb dL_law_279 (by decide) ?_
                  refine lv_istore (lv' := [(4, .int (nI 1)), (2, .int (nI 1)), (11, .int (nI (gL w9 (min f9 s9 + d / 365) - m9))), (10, .int (nI w9)), (9, .int (nI s9)), (0, .ref sb), (1, .ref h0), (3, .int (nI E)), (5, .int (nI T)), (6, .int (nI n)), (7, .int v), (8, .int (nI q))]) hx hb dL_law_283 hl (by decide) rfl (fun ls hl => ?_)
                  refine lv_iload hx hb dL_law_285 (lv_at hl 4 rfl) ?_
                  refine nk_if_ne (tgt := 294) hx hb (by omega) dL_law_287 (by decide) (fun c287 => ?_) (fun c287 => ?_)
                  · refine lv_iconst (v := nI 0) hx hb dL_law_294 (by decide +kernel) ?_
                    refine lv_istore_n (lv' := [(3, .int (nI 0)), (4, .int (nI 1)), (2, .int (nI 1)), (11, .int (nI (gL w9 (min f9 s9 + d / 365) - m9))), (10, .int (nI w9)), (9, .int (nI s9)), (0, .ref sb), (1, .ref h0), (5, .int (nI T)), (6, .int (nI n)), (7, .int v), (8, .int (nI q))]) hx hb dL_law_295 rfl hl (by decide) rfl (fun ls hl => ?_)
                    refine lv_goto (tgt := 583) hx hb dL_law_296 (by decide) ?_
                    refine W.widen (k := cells + 2) (n := slots + 12) (by omega) (by omega) ?_
                    exact kk _ _ _ 1 0 ⟨_, _, _, _, _, _, _, _, _, _, _, _, _, _, _, _, _, _, _, _, _, _, _, hI2, (fun z => by omega), ⟨by omega, by decide, by decide, fun _ => en_two x2⟩, hP, hD⟩ hS (lv_sub hl [6, 7, 2, 0, 1, 8, 9] rfl)
                  · exfalso; omega
        · exact absurd c215 (nk_n3 (by omega))
    · have hP : va_P D vwCl (wX h0 h1 h2 h3 h4 h5 h6 h7 h8 h9 cI cJ d r lc bg w rm k pn fa e1 am dd rt b pd pt tp) H := hP
      have hD : va_D A (wX h0 h1 h2 h3 h4 h5 h6 h7 h8 h9 cI cJ d r lc bg w rm k pn fa e1 am dd rt b pd pt tp) := hD
      refine lv_istore (lv' := [(11, .int (-3)), (10, .int (nI w9)), (9, .int (nI s9)), (0, .ref sb), (1, .ref h0), (2, .int (nI B)), (3, .int (nI E)), (4, .int (nI 1)), (5, .int (nI T)), (6, .int (nI n)), (7, .int v), (8, .int (nI q))]) hx hb dL_law_196 hl (by decide) rfl (fun ls hl => ?_)
      refine lv_iload hx hb dL_law_198 (lv_at hl 0 rfl) ?_
      refine lv_bipush (v := -3) hx hb dL_law_200 (by decide +kernel) ?_
      refine lv_icmp_eq (tgt := 209) hx hb dL_law_202 (by decide) (fun c202 => ?_) (fun c202 => ?_)
      · refine lv_iconst (v := nI 0) hx hb dL_law_209 (by decide +kernel) ?_
        refine lv_istore_n (lv' := [(2, .int (nI 0)), (11, .int (-3)), (10, .int (nI w9)), (9, .int (nI s9)), (0, .ref sb), (1, .ref h0), (3, .int (nI E)), (4, .int (nI 1)), (5, .int (nI T)), (6, .int (nI n)), (7, .int v), (8, .int (nI q))]) hx hb dL_law_210 rfl hl (by decide) rfl (fun ls hl => ?_)
        refine lv_iload hx hb dL_law_211 (lv_at hl 1 rfl) ?_
        refine lv_bipush (v := -3) hx hb dL_law_213 (by decide +kernel) ?_
        refine lv_icmp_ne (tgt := 240) hx hb dL_law_215 (by decide) (fun c215 => ?_) (fun c215 => ?_)
        · exact absurd rfl c215
        · refine lv_aload_n hx hb dL_law_218 rfl (lv_at hl 5 rfl) ?_
          refine nk_rd (W.runV (As := []) (rest := []) ⟨hx, hb, hml, hown, hts⟩ (c_X0_worth l D h0 h1 h2 h3 h4 h5 h6 h7 h8 h9 cI cJ d r lc bg w rm k pn fa e1 am dd rt b pd pt tp) (cwV 0 hts gL_law_X0_worth rfl rfl rfl (by decide +kernel) ⟨Nat.le_of_ble_eq_true rfl, Nat.le_of_ble_eq_true rfl⟩) ⟨nk_Pr.blind, va_recv hK hP (ci := 0) (q0 := 0) rfl rfl, fun U hU hW => ⟨rfl, by rw [hU]; exact hP, va_K.moved hW.alike hK⟩⟩ rfl rfl hl.1 rfl (lv_room (Nat.le_of_ble_eq_true rfl)) dL_law_219 ⟨by show cells + 1 + 0 ≤ 125; omega, by show slots + 6 + 0 ≤ 1879; omega⟩) ?_
          refine W.eq (g2 := F0 m 222 ls [.int (nI w)]) rfl ?_
          refine nk_if_ne (tgt := 236) hx hb (by omega) dL_law_222 (by decide) (fun c222 => ?_) (fun c222 => ?_)
          · exfalso; omega
          · refine lv_aload_n hx hb dL_law_225 rfl (lv_at hl 5 rfl) ?_
            refine nk_rd (W.runV (As := []) (rest := []) ⟨hx, hb, hml, hown, hts⟩ (c_X0_drawings l D h0 h1 h2 h3 h4 h5 h6 h7 h8 h9 cI cJ d r lc bg w rm k pn fa e1 am dd rt b pd pt tp) (cwV 0 hts gL_law_X0_drawings rfl rfl rfl (by decide +kernel) ⟨Nat.le_of_ble_eq_true rfl, Nat.le_of_ble_eq_true rfl⟩) ⟨nk_Pr.blind, va_recv hK hP (ci := 0) (q0 := 0) rfl rfl, fun U hU hW => ⟨rfl, by rw [hU]; exact hP, va_K.moved hW.alike hK⟩⟩ rfl rfl hl.1 rfl (lv_room (Nat.le_of_ble_eq_true rfl)) dL_law_226 ⟨by show cells + 1 + 0 ≤ 125; omega, by show slots + 6 + 0 ≤ 1879; omega⟩) ?_
            refine W.eq (g2 := F0 m 229 ls [.int (nI k)]) rfl ?_
            refine nk_if_ne (tgt := 236) hx hb (by omega) dL_law_229 (by decide) (fun c229 => ?_) (fun c229 => ?_)
            · exfalso; omega
            · refine lv_iconst (v := nI 1) hx hb dL_law_232 (by decide +kernel) ?_
              refine lv_goto (tgt := 283) hx hb dL_law_233 (by decide) ?_
              refine lv_istore (lv' := [(4, .int (nI 1)), (2, .int (nI 0)), (11, .int (-3)), (10, .int (nI w9)), (9, .int (nI s9)), (0, .ref sb), (1, .ref h0), (3, .int (nI E)), (5, .int (nI T)), (6, .int (nI n)), (7, .int v), (8, .int (nI q))]) hx hb dL_law_283 hl (by decide) rfl (fun ls hl => ?_)
              refine lv_iload hx hb dL_law_285 (lv_at hl 4 rfl) ?_
              refine nk_if_ne (tgt := 294) hx hb (by omega) dL_law_287 (by decide) (fun c287 => ?_) (fun c287 => ?_)
              · refine lv_iconst (v := nI 0) hx hb dL_law_294 (by decide +kernel) ?_
                refine lv_istore_n (lv' := [(3, .int (nI 0)), (4, .int (nI 1)), (2, .int (nI 0)), (11, .int (-3)), (10, .int (nI w9)), (9, .int (nI s9)), (0, .ref sb), (1, .ref h0), (5, .int (nI T)), (6, .int (nI n)), (7, .int v), (8, .int (nI q))]) hx hb dL_law_295 rfl hl (by decide) rfl (fun ls hl => ?_)
                refine lv_goto (tgt := 583) hx hb dL_law_296 (by decide) ?_
                refine W.widen (k := cells + 2) (n := slots + 12) (by omega) (by omega) ?_
                exact kk _ _ _ 0 0 ⟨_, _, _, _, _, _, _, _, _, _, _, _, _, _, _, _, _, _, _, _, _, _, _, hI, hw0, ⟨by omega, by decide, by omega, fun z => by omega⟩, hP, hD⟩ hS (lv_sub hl [6, 7, 2, 0, 1, 8, 9] rfl)
              · refine lv_iconst (v := nI 2) hx hb dL_law_290 (by decide +kernel) ?_
                refine lv_goto (tgt := 295) hx hb dL_law_291 (by decide) ?_
                refine lv_istore_n (lv' := [(3, .int (nI 2)), (4, .int (nI 1)), (2, .int (nI 0)), (11, .int (-3)), (10, .int (nI w9)), (9, .int (nI s9)), (0, .ref sb), (1, .ref h0), (5, .int (nI T)), (6, .int (nI n)), (7, .int v), (8, .int (nI q))]) hx hb dL_law_295 rfl hl (by decide) rfl (fun ls hl => ?_)
                refine lv_goto (tgt := 583) hx hb dL_law_296 (by decide) ?_
                refine W.widen (k := cells + 2) (n := slots + 12) (by omega) (by omega) ?_
                exact kk _ _ _ 0 2 ⟨_, _, _, _, _, _, _, _, _, _, _, _, _, _, _, _, _, _, _, _, _, _, _, hI, hw0, ⟨by omega, by decide, by omega, fun z => by omega⟩, hP, hD⟩ hS (lv_sub hl [6, 7, 2, 0, 1, 8, 9] rfl)
      · exact absurd rfl c202
  refine nk_if_ne (tgt := 139) hx hb (lwV_i (by decide) (by decide)) dL_law_132 (by decide) (fun c132 => ?_) (fun c132 => ?_)
  · refine lv_bipush (v := nI 55) hx hb dL_law_139 (by decide +kernel) ?_
    refine lv_iload hx hb dL_law_141 (lv_at hl 7 rfl) ?_
    refine lv_iconst (v := nI 5) hx hb dL_law_143 (by decide +kernel) ?_
    refine lv_ishr hx hb dL_law_144 ?_
    refine lv_bipush (v := nI 41) hx hb dL_law_145 (by decide +kernel) ?_
    refine nk_rd (W.runS (As := [.int (v >>> (nI 5 &&& 31)), .int (nI 41)]) (rest := [.int (nI 55)]) ⟨hx, hb, hml, hown, hts⟩ (c_L_low l (v >>> (nI 5 &&& 31)) 41 (by omega) (by omega)) (va_cwS 2 hts gL_law_L_low rfl rfl rfl (by decide +kernel) ⟨Nat.le_of_ble_eq_true rfl, Nat.le_of_ble_eq_true rfl⟩) ⟨nk_P0.blind, fun U hU hW => ⟨rfl, trivial⟩⟩ rfl rfl hl.1 rfl (lv_room (Nat.le_of_ble_eq_true rfl)) dL_law_147 ⟨by show cells + 0 ≤ 125; omega, by show slots + 0 ≤ 1879; omega⟩) ?_
    refine W.eq (g2 := F0 m 150 ls [.int (nI (lwV (v >>> (nI 5 &&& 31)) 41)), .int (nI 55)]) rfl ?_
    refine nk_iadd hx hb dL_law_150 ?_
    have hlw41 := lwV_lt (x := v >>> (nI 5 &&& 31)) (n := 41) (by decide)
    exact kj151 (55 + (lwV (v >>> (nI 5 &&& 31)) 41)) (Or.inr (by omega))
  · refine lv_iconst (v := nI 0) hx hb dL_law_135 (by decide +kernel) ?_
    refine lv_goto (tgt := 151) hx hb dL_law_136 (by decide) ?_
    exact kj151 0 (Or.inl rfl)
