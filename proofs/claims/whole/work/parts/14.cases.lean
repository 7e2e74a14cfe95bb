-- ===== end of PART A; then your names; then what follows =====
/-! THE CLAIM OUT OF ONE WALK OF THE LAW'S BODY. Your part is whole_start (and what it stands on); all else here is the same for every law, but numbers. -/
def R_law : String := "EquityReleaseLaw"
def lw_P (b : Addr) (xs : List Int32) (args : Array Value) (s : State) : Prop := args = #[.ref b] ∧ s.IntsAt b xs ∧ xs.length ≤ 2560 ∧ (Jvm.Cond.and given_1 narrow_1).before args s = true
def lw_Q (_ : Array Value) (s : State) (o : Outcome) (t : State) : Prop := o = .returned (some (.int 1)) ∧ Framed s o t [] 1051 9300
def lw_Z (below : List Frame) (a : Array Value) (s : State) : State → Prop := fun t => ∃ o, t.status = .running ∧ Ended t below o ∧ lw_Q a s o t
/-- the law's own end, with 1 on the stack, nothing written that was there before, its room as the claim has it -/
theorem lw_ret {p : Program} {l : Launch} {e : Env} {s : State} {m : MethodId} {below : List Frame} {meth : Method} {c : Code} {b : Nat} (hx : p.tables.exec = Jvm.exec) (hb : c.code = code) (hr : meth.sig.returnType = ret) (hlocks : meth.locks = false) {pc : Nat} {H : Heap} {ls : Array Slot} (hdg : decode code pc = .ok (.ireturn, 1)) : W p l e room_1 s m #[Value.ref b] below meth c H [] 1051 9300 (lw_Z below #[Value.ref b] s) (F0 m pc ls [.int 1]) := by
  intro T hT X
  obtain ⟨fs, hret, hrun, hended, hW, hframe⟩ := X.leave (v := some (.int 1)) (hlocks := hlocks) (fun h => by rw [hr] at h; cases h)
  have hmeth' : T.vm.method? m = some meth := X.method'
  refine ⟨T.setFrames fs, ?_, .returned (some (.int 1)), hrun, hended, rfl, ⟨_, rfl⟩, hW, hframe⟩
  jvm_step X.here [X.here.top, hx, hb, hdg, hmeth', hr, ret, narrow_b1]
  (try refine ⟨rfl, ?_⟩); (try refine ⟨rfl, ?_⟩)
  first | (intro acts; rw [hret _ acts rfl rfl rfl]) | rw [hret _ _ rfl rfl rfl]
  exact Steps.refl _
/-- what holds at the law's entry: the machine, the code, the tables' words (any of lw_tbl by 'hts w (by decide +kernel)'), the script of L ints xs at the cell b, what the Statement gives of the start (any of its parts by flat_of_before) -/
def lw_At (p : Program) (s : State) (m : MethodId) (meth : Method) (c : Code) (b L : Nat) (xs : Nat → Int32) : Prop :=
  p.tables.exec = Jvm.exec ∧ c.code = code ∧ meth.sig.returnType = ret ∧ c.maxLocals = 8 ∧ s.vm.findClass R_law = some m.cls ∧ (∀ w ∈ lw_tbl, w.before #[Value.ref b] s = true) ∧ va_X b L xs s s.heap ∧ b < s.heap.size ∧ meth.locks = false ∧ (Jvm.Cond.and given_1 narrow_1).before #[Value.ref b] s = true
/-! the law's cases, one by one: from the switch to the loop's end -/
def nk_St (D : va_G) (A : Nat → Prop) (h0 h1 h2 h3 h4 h5 h6 h7 h8 h9 g0 g1 g2 g3 g4 ho : Nat) (cI cJ : ClassId) (H : Heap) : Prop :=
  ∃ (d r lc bg w rm k pn : Nat) (fa e1 am dd rt b pd pt tp : Nat → Nat) (gb dr pa pi : Nat) (ga e2 : Nat → Nat) (th : Nat) (og : Nat → Int64), Inv d r lc bg w rm k pn fa e1 am dd rt b pd pt tp gb dr pa pi ga e2 ∧ va_P D vwCl (wX h0 h1 h2 h3 h4 h5 h6 h7 h8 h9 cI cJ d r lc bg w rm k pn fa e1 am dd rt b pd pt tp ++ (wM g0 g1 g2 g3 g4 cI cJ d r gb w rm lc k dr pn pa pi th ga e2 b rt ++ [(ho, .inl (cJ, 1, .inr (.inl (og))))])) H ∧ va_D A (wX h0 h1 h2 h3 h4 h5 h6 h7 h8 h9 cI cJ d r lc bg w rm k pn fa e1 am dd rt b pd pt tp ++ (wM g0 g1 g2 g3 g4 cI cJ d r gb w rm lc k dr pn pa pi th ga e2 b rt ++ [(ho, .inl (cJ, 1, .inr (.inl (og))))]))
theorem nk_arg {q : Int32} {z : Int} (hz : q.toInt = z) : ∃ a : Nat, (0 ≤ z → q = nI a ∧ a < 2147483648) ∧ (0 ≤ z → z = (a : Int)) := by
  refine ⟨z.toNat, fun h => ⟨?_, ?_⟩, fun h => by omega⟩
  · apply Int32.toInt_inj.mp
    have h1 := Int32.toInt_lt q
    rw [nI_toInt (by omega), hz]; omega
  · have h1 := Int32.toInt_lt q
    omega
theorem nk_out {og : Nat → Int64} {x : Int64} : vp_updL og 0 x (nI 0).toNatClampNeg = x := by
  rw [nI_clamp (by decide)]; simp [vp_updL]
section NKS
variable {p : Program} {l : Launch} {e : Env} {R : Room} {s : State} {m : MethodId} {args : Array Value} {below : List Frame} {meth : Method} {c : Code} {H : Heap} {locs : List Loc} {cells slots : Nat} {Q : State → Prop}
variable {cc : ByteArray} {pc : Nat} {ls : Array Slot} {rest : List Value} {off : Int} {tgt : Nat}
theorem nk_isame (hx : p.tables.exec = Jvm.exec) (hb : c.code = cc) {x y : Int32} (h : x = y) (hdg : decode cc pc = .ok (.if_icmp .eq off, 3)) (ht : (pc : Int) + off = (tgt : Int)) (k : W p l e R s m args below meth c H locs cells slots Q (F0 m tgt ls rest)) : W p l e R s m args below meth c H locs cells slots Q (F0 m pc ls (.int y :: .int x :: rest)) := lv_icmp_eq hx hb hdg ht (fun _ => k) (fun q => absurd h q)
theorem nk_lsame (hx : p.tables.exec = Jvm.exec) (hb : c.code = cc) {x y : Int64} (h : x = y) (d1 : decode cc pc = .ok (.lcmp, 1)) (d2 : decode cc (pc + 1) = .ok (.ifCond .eq off, 3)) (ht : ((pc + 1 : Nat) : Int) + off = (tgt : Int)) (k : W p l e R s m args below meth c H locs cells slots Q (F0 m tgt ls rest)) : W p l e R s m args below meth c H locs cells slots Q (F0 m pc ls (.long y :: .long x :: rest)) := W.lcmp hx hb d1 (lv_if_eq hx hb d2 ht (fun _ => k) (fun q => absurd (nk_cmp1.2.2.2.2.mpr ⟨by rw [h]; exact Int64.lt_irrefl, h⟩) q))
end NKS
set_option maxHeartbeats 8000000 in
set_option maxRecDepth 100000 in
theorem lc_day {p : Program} {l : Launch} {e : Env} {s : State} {m : MethodId} {below : List Frame} {meth : Method} {c : Code} {sb L : Nat} {xs : Nat → Int32} {D : va_G} {h0 h1 h2 h3 h4 h5 h6 h7 h8 h9 g0 g1 g2 g3 g4 ho : Nat} {cI cJ : ClassId} {H : Heap} {locs : List Loc} {cells slots : Nat} {Q : State → Prop} {ls : Array Slot} {i : Nat}
    (C0 : lw_At p s m meth c sb L xs) (hfl : l.stackTraces = false) (hK : va_K D vwCl (tX cI cJ) s) (hZ : nk_Z (fun q : Nat => s.heap.size ≤ q) s s.heap) (hc9 : cells + 1 ≤ 1051) (hs9 : slots + 6 ≤ 9300) (hi5 : i + 5 ≤ L) (hL : L ≤ 2560) (hSt : nk_St D (fun q : Nat => s.heap.size ≤ q) h0 h1 h2 h3 h4 h5 h6 h7 h8 h9 g0 g1 g2 g3 g4 ho cI cJ H) (hS : va_S (fun q : Nat => s.heap.size ≤ q) s.heap H locs) (hl : lv_has ls 8 [(0, .ref sb), (1, .ref h0), (2, .ref g0), (3, .ref ho), (4, .int (nI i))])
    (kk : ∀ (H1 : Heap) (locs1 : List Loc) (ls1 : Array Slot), nk_St D (fun q : Nat => s.heap.size ≤ q) h0 h1 h2 h3 h4 h5 h6 h7 h8 h9 g0 g1 g2 g3 g4 ho cI cJ H1 → va_S (fun q : Nat => s.heap.size ≤ q) s.heap H1 locs1 → lv_has ls1 8 [(0, .ref sb), (1, .ref h0), (2, .ref g0), (3, .ref ho), (4, .int (nI i))] → W p l e room_1 s m #[Value.ref sb] below meth c H1 locs1 (cells + 1) (slots + 6) Q (F0 m 877 ls1 [])) : W p l e room_1 s m #[Value.ref sb] below meth c H locs cells slots Q (F0 m 619 ls []) := by
  obtain ⟨hx, hb, hr, hml, hown, hts0, hX, hbl, hlocks, hgv⟩ := C0
  have hts : ∀ w ∈ wsL_law, w.before #[Value.ref sb] s = true := fun w h => hts0 w (wsL_law_in w h)
  have hown : s.vm.findClass RL = some m.cls := hown
  have hA : ∀ q : Nat, s.heap.size ≤ q → (fun q : Nat => s.heap.size ≤ q) q := fun _ h => h
  have hbA : ¬ (fun q : Nat => s.heap.size ≤ q) sb := Nat.not_le.mpr hbl
  obtain ⟨d, r, lc, bg, w, rm, k, pn, fa, e1, am, dd, rt, b, pd, pt, tp, gb, dr, pa, pi, ga, e2, th, og, hI, hP, hD⟩ := hSt
  obtain ⟨hlc, hd, hk, hpn, hbg, hw, hrm, he, hed, hfa, ham, hpd, hpd2, hpt, hbs, hb9, hrt, hdd, hroll, hh1, hh2, hh3, htp, hsa, hk0, he2, he2d, hga, hgb, hgb2, hpi, hdr, hpa1, he20, he21, hk0m, he28, hgbz, halE, hmxE, hlsE⟩ := Inv_f hI
  have hgbp : 0 < gb ↔ 0 < lc := by omega
  refine lv_aload_n hx hb dL_law_619 rfl (lv_at hl 1 rfl) ?_
  have hPc := hP.sub (ws' := wX h0 h1 h2 h3 h4 h5 h6 h7 h8 h9 cI cJ d r lc bg w rm k pn fa e1 am dd rt b pd pt tp) [0, 1, 2, 3, 4, 5, 6, 7, 8, 9] rfl
  refine nk_rd (W.runV (As := []) (rest := []) ⟨hx, hb, hml, hown, hts⟩ (c_X0_day l D h0 h1 h2 h3 h4 h5 h6 h7 h8 h9 cI cJ d r lc bg w rm k pn fa e1 am dd rt b pd pt tp ) (cwV 0 hts gL_law_X0_day rfl rfl rfl (by decide +kernel) ⟨Nat.le_of_ble_eq_true rfl, Nat.le_of_ble_eq_true rfl⟩) ⟨nk_Pr.blind, va_recv hK hPc (ci := 0) (q0 := 0) rfl rfl, fun U hU hW => ⟨rfl, by rw [hU]; exact hPc, va_K.moved hW.alike hK⟩⟩ rfl rfl hl.1 rfl (lv_room (Nat.le_of_ble_eq_true rfl)) dL_law_620 ⟨by show cells + 0 ≤ 1051; omega, by show slots + 0 ≤ 9300; omega⟩) ?_
  refine W.eq (g2 := F0 m 623 ls [.int (nI d)]) rfl ?_
  refine lv_aload_n hx hb dL_law_623 rfl (lv_at hl 2 rfl) ?_
  have hPm := hP.sub (ws' := wM g0 g1 g2 g3 g4 cI cJ d r gb w rm lc k dr pn pa pi th ga e2 b rt) [10, 11, 12, 13, 14] rfl
  have hDm := hD.sub (ws' := wM g0 g1 g2 g3 g4 cI cJ d r gb w rm lc k dr pn pa pi th ga e2 b rt) [10, 11, 12, 13, 14] (by decide) rfl
  refine nk_icall (wr := wX h0 h1 h2 h3 h4 h5 h6 h7 h8 h9 cI cJ d r lc bg w rm k pn fa e1 am dd rt b pd pt tp ++ [(ho, .inl (cJ, 1, .inr (.inl (og))))]) (va_runV (As := []) (rest := [.int (nI d)]) ⟨hx, hb, hml, hown, hts⟩ (c_X1_day l D g0 g1 g2 g3 g4 cI cJ d r gb w rm lc k dr pn pa pi th ga e2 b rt H.size ) (cwV 0 hts gL_law_X1_day rfl rfl rfl (by decide +kernel) ⟨Nat.le_of_ble_eq_true rfl, Nat.le_of_ble_eq_true rfl⟩) ⟨nk_Pw.blind, va_recv hK hPm (ci := 1) (q0 := 0) rfl rfl, fun U hU hW => ⟨rfl, by rw [hU], by rw [hU]; exact hPm, va_K.moved hW.alike hK, hDm.weaken (fun _ _ _ _ => trivial)⟩⟩ rfl rfl hl.1 rfl (lv_room (Nat.le_of_ble_eq_true rfl)) dL_law_624 ⟨by show cells + 0 ≤ 1051; omega, by show slots + 0 ≤ 9300; omega⟩) hP hD hS hA [10, 11, 12, 13, 14] [0, 1, 2, 3, 4, 5, 6, 7, 8, 9, 15] rfl rfl rfl (by decide) (fun r9 w1 H locs hw9 hP hD hS hk9 => ?_)
  obtain ⟨rfl, rfl⟩ := hw9
  have hP := hP.sub (ws' := wX h0 h1 h2 h3 h4 h5 h6 h7 h8 h9 cI cJ d r lc bg w rm k pn fa e1 am dd rt b pd pt tp ++ (wM g0 g1 g2 g3 g4 cI cJ d r gb w rm lc k dr pn pa pi 0 ga e2 b rt ++ [(ho, .inl (cJ, 1, .inr (.inl (og))))])) [0, 1, 2, 3, 4, 5, 6, 7, 8, 9, 11, 12, 13, 14, 15, 10] rfl
  have hD := hD.sub (ws' := wX h0 h1 h2 h3 h4 h5 h6 h7 h8 h9 cI cJ d r lc bg w rm k pn fa e1 am dd rt b pd pt tp ++ (wM g0 g1 g2 g3 g4 cI cJ d r gb w rm lc k dr pn pa pi 0 ga e2 b rt ++ [(ho, .inl (cJ, 1, .inr (.inl (og))))])) [0, 1, 2, 3, 4, 5, 6, 7, 8, 9, 11, 12, 13, 14, 15, 10] (by decide) rfl
  refine nk_isame (tgt := 877) hx hb rfl dL_law_627 (by decide) ?_
  refine W.widen (k := cells + 1) (n := slots + 6) (by omega) (by omega) ?_
  exact kk _ _ _ ⟨_, _, _, _, _, _, _, _, _, _, _, _, _, _, _, _, _, _, _, _, _, _, _, _, _, hI, hP, hD⟩ hS (lv_sub hl [0, 1, 2, 3, 4] rfl)
set_option maxHeartbeats 8000000 in
set_option maxRecDepth 100000 in
theorem lc_hasEnded {p : Program} {l : Launch} {e : Env} {s : State} {m : MethodId} {below : List Frame} {meth : Method} {c : Code} {sb L : Nat} {xs : Nat → Int32} {D : va_G} {h0 h1 h2 h3 h4 h5 h6 h7 h8 h9 g0 g1 g2 g3 g4 ho : Nat} {cI cJ : ClassId} {H : Heap} {locs : List Loc} {cells slots : Nat} {Q : State → Prop} {ls : Array Slot} {i : Nat}
    (C0 : lw_At p s m meth c sb L xs) (hfl : l.stackTraces = false) (hK : va_K D vwCl (tX cI cJ) s) (hZ : nk_Z (fun q : Nat => s.heap.size ≤ q) s s.heap) (hc9 : cells + 1 ≤ 1051) (hs9 : slots + 6 ≤ 9300) (hi5 : i + 5 ≤ L) (hL : L ≤ 2560) (hSt : nk_St D (fun q : Nat => s.heap.size ≤ q) h0 h1 h2 h3 h4 h5 h6 h7 h8 h9 g0 g1 g2 g3 g4 ho cI cJ H) (hS : va_S (fun q : Nat => s.heap.size ≤ q) s.heap H locs) (hl : lv_has ls 8 [(0, .ref sb), (1, .ref h0), (2, .ref g0), (3, .ref ho), (4, .int (nI i))])
    (kk : ∀ (H1 : Heap) (locs1 : List Loc) (ls1 : Array Slot), nk_St D (fun q : Nat => s.heap.size ≤ q) h0 h1 h2 h3 h4 h5 h6 h7 h8 h9 g0 g1 g2 g3 g4 ho cI cJ H1 → va_S (fun q : Nat => s.heap.size ≤ q) s.heap H1 locs1 → lv_has ls1 8 [(0, .ref sb), (1, .ref h0), (2, .ref g0), (3, .ref ho), (4, .int (nI i))] → W p l e room_1 s m #[Value.ref sb] below meth c H1 locs1 (cells + 1) (slots + 6) Q (F0 m 877 ls1 [])) : W p l e room_1 s m #[Value.ref sb] below meth c H locs cells slots Q (F0 m 632 ls []) := by
  obtain ⟨hx, hb, hr, hml, hown, hts0, hX, hbl, hlocks, hgv⟩ := C0
  have hts : ∀ w ∈ wsL_law, w.before #[Value.ref sb] s = true := fun w h => hts0 w (wsL_law_in w h)
  have hown : s.vm.findClass RL = some m.cls := hown
  have hA : ∀ q : Nat, s.heap.size ≤ q → (fun q : Nat => s.heap.size ≤ q) q := fun _ h => h
  have hbA : ¬ (fun q : Nat => s.heap.size ≤ q) sb := Nat.not_le.mpr hbl
  obtain ⟨d, r, lc, bg, w, rm, k, pn, fa, e1, am, dd, rt, b, pd, pt, tp, gb, dr, pa, pi, ga, e2, th, og, hI, hP, hD⟩ := hSt
  obtain ⟨hlc, hd, hk, hpn, hbg, hw, hrm, he, hed, hfa, ham, hpd, hpd2, hpt, hbs, hb9, hrt, hdd, hroll, hh1, hh2, hh3, htp, hsa, hk0, he2, he2d, hga, hgb, hgb2, hpi, hdr, hpa1, he20, he21, hk0m, he28, hgbz, halE, hmxE, hlsE⟩ := Inv_f hI
  have hgbp : 0 < gb ↔ 0 < lc := by omega
  refine lv_aload_n hx hb dL_law_632 rfl (lv_at hl 1 rfl) ?_
  have hPc := hP.sub (ws' := wX h0 h1 h2 h3 h4 h5 h6 h7 h8 h9 cI cJ d r lc bg w rm k pn fa e1 am dd rt b pd pt tp) [0, 1, 2, 3, 4, 5, 6, 7, 8, 9] rfl
  refine nk_rd (W.runV (As := []) (rest := []) ⟨hx, hb, hml, hown, hts⟩ (c_X0_hasEnded l D h0 h1 h2 h3 h4 h5 h6 h7 h8 h9 cI cJ d r lc bg w rm k pn fa e1 am dd rt b pd pt tp hlc he) (cwV 0 hts gL_law_X0_hasEnded rfl rfl rfl (by decide +kernel) ⟨Nat.le_of_ble_eq_true rfl, Nat.le_of_ble_eq_true rfl⟩) ⟨nk_Pr.blind, va_recv hK hPc (ci := 0) (q0 := 0) rfl rfl, fun U hU hW => ⟨rfl, by rw [hU]; exact hPc, va_K.moved hW.alike hK⟩⟩ rfl rfl hl.1 rfl (lv_room (Nat.le_of_ble_eq_true rfl)) dL_law_633 ⟨by show cells + 0 ≤ 1051; omega, by show slots + 0 ≤ 9300; omega⟩) ?_
  refine W.eq (g2 := F0 m 636 ls [.int (nI (if 0 < lc ∧ alive e1 lc = 0 then 1 else 0))]) rfl ?_
  refine lv_aload_n hx hb dL_law_636 rfl (lv_at hl 2 rfl) ?_
  have hPm := hP.sub (ws' := wM g0 g1 g2 g3 g4 cI cJ d r gb w rm lc k dr pn pa pi th ga e2 b rt) [10, 11, 12, 13, 14] rfl
  have hDm := hD.sub (ws' := wM g0 g1 g2 g3 g4 cI cJ d r gb w rm lc k dr pn pa pi th ga e2 b rt) [10, 11, 12, 13, 14] (by decide) rfl
  refine nk_icall (wr := wX h0 h1 h2 h3 h4 h5 h6 h7 h8 h9 cI cJ d r lc bg w rm k pn fa e1 am dd rt b pd pt tp ++ [(ho, .inl (cJ, 1, .inr (.inl (og))))]) (va_runV (As := []) (rest := [.int (nI (if 0 < lc ∧ alive e1 lc = 0 then 1 else 0))]) ⟨hx, hb, hml, hown, hts⟩ (c_X1_hasEnded l D g0 g1 g2 g3 g4 cI cJ d r gb w rm lc k dr pn pa pi th ga e2 b rt H.size hgb2 hlc he2) (cwV 0 hts gL_law_X1_hasEnded rfl rfl rfl (by decide +kernel) ⟨Nat.le_of_ble_eq_true rfl, Nat.le_of_ble_eq_true rfl⟩) ⟨nk_Pw.blind, va_recv hK hPm (ci := 1) (q0 := 0) rfl rfl, fun U hU hW => ⟨rfl, by rw [hU], by rw [hU]; exact hPm, va_K.moved hW.alike hK, hDm.weaken (fun _ _ _ _ => trivial)⟩⟩ rfl rfl hl.1 rfl (lv_room (Nat.le_of_ble_eq_true rfl)) dL_law_637 ⟨by show cells + 0 ≤ 1051; omega, by show slots + 0 ≤ 9300; omega⟩) hP hD hS hA [10, 11, 12, 13, 14] [0, 1, 2, 3, 4, 5, 6, 7, 8, 9, 15] rfl rfl rfl (by decide) (fun r9 w1 H locs hw9 hP hD hS hk9 => ?_)
  obtain ⟨rfl, rfl⟩ := hw9
  have hP := hP.sub (ws' := wX h0 h1 h2 h3 h4 h5 h6 h7 h8 h9 cI cJ d r lc bg w rm k pn fa e1 am dd rt b pd pt tp ++ (wM g0 g1 g2 g3 g4 cI cJ d r gb w rm lc k dr pn pa pi 0 ga e2 b rt ++ [(ho, .inl (cJ, 1, .inr (.inl (og))))])) [0, 1, 2, 3, 4, 5, 6, 7, 8, 9, 11, 12, 13, 14, 15, 10] rfl
  have hD := hD.sub (ws' := wX h0 h1 h2 h3 h4 h5 h6 h7 h8 h9 cI cJ d r lc bg w rm k pn fa e1 am dd rt b pd pt tp ++ (wM g0 g1 g2 g3 g4 cI cJ d r gb w rm lc k dr pn pa pi 0 ga e2 b rt ++ [(ho, .inl (cJ, 1, .inr (.inl (og))))])) [0, 1, 2, 3, 4, 5, 6, 7, 8, 9, 11, 12, 13, 14, 15, 10] (by decide) rfl
  refine nk_isame (tgt := 877) hx hb (by simp only [show (0 < gb ∧ alive e2 lc = 0) = (0 < lc ∧ alive e1 lc = 0) from propext (by rw [halE]; omega)]) dL_law_640 (by decide) ?_
  refine W.widen (k := cells + 1) (n := slots + 6) (by omega) (by omega) ?_
  exact kk _ _ _ ⟨_, _, _, _, _, _, _, _, _, _, _, _, _, _, _, _, _, _, _, _, _, _, _, _, _, hI, hP, hD⟩ hS (lv_sub hl [0, 1, 2, 3, 4] rfl)
set_option maxHeartbeats 8000000 in
set_option maxRecDepth 100000 in
theorem lc_age {p : Program} {l : Launch} {e : Env} {s : State} {m : MethodId} {below : List Frame} {meth : Method} {c : Code} {sb L : Nat} {xs : Nat → Int32} {D : va_G} {h0 h1 h2 h3 h4 h5 h6 h7 h8 h9 g0 g1 g2 g3 g4 ho : Nat} {cI cJ : ClassId} {H : Heap} {locs : List Loc} {cells slots : Nat} {Q : State → Prop} {ls : Array Slot} {i : Nat}
    (C0 : lw_At p s m meth c sb L xs) (hfl : l.stackTraces = false) (hK : va_K D vwCl (tX cI cJ) s) (hZ : nk_Z (fun q : Nat => s.heap.size ≤ q) s s.heap) (hc9 : cells + 1 ≤ 1051) (hs9 : slots + 6 ≤ 9300) (hi5 : i + 5 ≤ L) (hL : L ≤ 2560) (hSt : nk_St D (fun q : Nat => s.heap.size ≤ q) h0 h1 h2 h3 h4 h5 h6 h7 h8 h9 g0 g1 g2 g3 g4 ho cI cJ H) (hS : va_S (fun q : Nat => s.heap.size ≤ q) s.heap H locs) (hl : lv_has ls 8 [(0, .ref sb), (1, .ref h0), (2, .ref g0), (3, .ref ho), (4, .int (nI i))])
    (kk : ∀ (H1 : Heap) (locs1 : List Loc) (ls1 : Array Slot), nk_St D (fun q : Nat => s.heap.size ≤ q) h0 h1 h2 h3 h4 h5 h6 h7 h8 h9 g0 g1 g2 g3 g4 ho cI cJ H1 → va_S (fun q : Nat => s.heap.size ≤ q) s.heap H1 locs1 → lv_has ls1 8 [(0, .ref sb), (1, .ref h0), (2, .ref g0), (3, .ref ho), (4, .int (nI i))] → W p l e room_1 s m #[Value.ref sb] below meth c H1 locs1 (cells + 1) (slots + 6) Q (F0 m 877 ls1 [])) : W p l e room_1 s m #[Value.ref sb] below meth c H locs cells slots Q (F0 m 645 ls []) := by
  obtain ⟨hx, hb, hr, hml, hown, hts0, hX, hbl, hlocks, hgv⟩ := C0
  have hts : ∀ w ∈ wsL_law, w.before #[Value.ref sb] s = true := fun w h => hts0 w (wsL_law_in w h)
  have hown : s.vm.findClass RL = some m.cls := hown
  have hA : ∀ q : Nat, s.heap.size ≤ q → (fun q : Nat => s.heap.size ≤ q) q := fun _ h => h
  have hbA : ¬ (fun q : Nat => s.heap.size ≤ q) sb := Nat.not_le.mpr hbl
  obtain ⟨d, r, lc, bg, w, rm, k, pn, fa, e1, am, dd, rt, b, pd, pt, tp, gb, dr, pa, pi, ga, e2, th, og, hI, hP, hD⟩ := hSt
  obtain ⟨hlc, hd, hk, hpn, hbg, hw, hrm, he, hed, hfa, ham, hpd, hpd2, hpt, hbs, hb9, hrt, hdd, hroll, hh1, hh2, hh3, htp, hsa, hk0, he2, he2d, hga, hgb, hgb2, hpi, hdr, hpa1, he20, he21, hk0m, he28, hgbz, halE, hmxE, hlsE⟩ := Inv_f hI
  have hgbp : 0 < gb ↔ 0 < lc := by omega
  refine lv_aload_n hx hb dL_law_645 rfl (lv_at hl 1 rfl) ?_
  have hPc := hP.sub (ws' := wX h0 h1 h2 h3 h4 h5 h6 h7 h8 h9 cI cJ d r lc bg w rm k pn fa e1 am dd rt b pd pt tp) [0, 1, 2, 3, 4, 5, 6, 7, 8, 9] rfl
  refine nk_rd (W.runV (As := []) (rest := []) ⟨hx, hb, hml, hown, hts⟩ (c_X0_age l D h0 h1 h2 h3 h4 h5 h6 h7 h8 h9 cI cJ d r lc bg w rm k pn fa e1 am dd rt b pd pt tp hlc he hfa hd) (cwV 0 hts gL_law_X0_age rfl rfl rfl (by decide +kernel) ⟨Nat.le_of_ble_eq_true rfl, Nat.le_of_ble_eq_true rfl⟩) ⟨nk_Pr.blind, va_recv hK hPc (ci := 0) (q0 := 0) rfl rfl, fun U hU hW => ⟨rfl, by rw [hU]; exact hPc, va_K.moved hW.alike hK⟩⟩ rfl rfl hl.1 rfl (lv_room (Nat.le_of_ble_eq_true rfl)) dL_law_646 ⟨by show cells + 0 ≤ 1051; omega, by show slots + 0 ≤ 9300; omega⟩) ?_
  refine W.eq (g2 := F0 m 649 ls [.int (nI (agE fa e1 lc (d / 365)) - 1)]) rfl ?_
  refine lv_aload_n hx hb dL_law_649 rfl (lv_at hl 2 rfl) ?_
  have hPm := hP.sub (ws' := wM g0 g1 g2 g3 g4 cI cJ d r gb w rm lc k dr pn pa pi th ga e2 b rt) [10, 11, 12, 13, 14] rfl
  have hDm := hD.sub (ws' := wM g0 g1 g2 g3 g4 cI cJ d r gb w rm lc k dr pn pa pi th ga e2 b rt) [10, 11, 12, 13, 14] (by decide) rfl
  refine nk_icall (wr := wX h0 h1 h2 h3 h4 h5 h6 h7 h8 h9 cI cJ d r lc bg w rm k pn fa e1 am dd rt b pd pt tp ++ [(ho, .inl (cJ, 1, .inr (.inl (og))))]) (va_runV (As := []) (rest := [.int (nI (agE fa e1 lc (d / 365)) - 1)]) ⟨hx, hb, hml, hown, hts⟩ (c_X1_age l D g0 g1 g2 g3 g4 cI cJ d r gb w rm lc k dr pn pa pi th ga e2 b rt H.size hlc he2 hga hd) (cwV 0 hts gL_law_X1_age rfl rfl rfl (by decide +kernel) ⟨Nat.le_of_ble_eq_true rfl, Nat.le_of_ble_eq_true rfl⟩) ⟨nk_Pw.blind, va_recv hK hPm (ci := 1) (q0 := 0) rfl rfl, fun U hU hW => ⟨rfl, by rw [hU], by rw [hU]; exact hPm, va_K.moved hW.alike hK, hDm.weaken (fun _ _ _ _ => trivial)⟩⟩ rfl rfl hl.1 rfl (lv_room (Nat.le_of_ble_eq_true rfl)) dL_law_650 ⟨by show cells + 0 ≤ 1051; omega, by show slots + 0 ≤ 9300; omega⟩) hP hD hS hA [10, 11, 12, 13, 14] [0, 1, 2, 3, 4, 5, 6, 7, 8, 9, 15] rfl rfl rfl (by decide) (fun r9 w1 H locs hw9 hP hD hS hk9 => ?_)
  obtain ⟨rfl, rfl⟩ := hw9
  have hP := hP.sub (ws' := wX h0 h1 h2 h3 h4 h5 h6 h7 h8 h9 cI cJ d r lc bg w rm k pn fa e1 am dd rt b pd pt tp ++ (wM g0 g1 g2 g3 g4 cI cJ d r gb w rm lc k dr pn pa pi 0 ga e2 b rt ++ [(ho, .inl (cJ, 1, .inr (.inl (og))))])) [0, 1, 2, 3, 4, 5, 6, 7, 8, 9, 11, 12, 13, 14, 15, 10] rfl
  have hD := hD.sub (ws' := wX h0 h1 h2 h3 h4 h5 h6 h7 h8 h9 cI cJ d r lc bg w rm k pn fa e1 am dd rt b pd pt tp ++ (wM g0 g1 g2 g3 g4 cI cJ d r gb w rm lc k dr pn pa pi 0 ga e2 b rt ++ [(ho, .inl (cJ, 1, .inr (.inl (og))))])) [0, 1, 2, 3, 4, 5, 6, 7, 8, 9, 11, 12, 13, 14, 15, 10] (by decide) rfl
  refine nk_isame (tgt := 877) hx hb (by unfold agE; rw [hlsE]) dL_law_653 (by decide) ?_
  refine W.widen (k := cells + 1) (n := slots + 6) (by omega) (by omega) ?_
  exact kk _ _ _ ⟨_, _, _, _, _, _, _, _, _, _, _, _, _, _, _, _, _, _, _, _, _, _, _, _, _, hI, hP, hD⟩ hS (lv_sub hl [0, 1, 2, 3, 4] rfl)
set_option maxHeartbeats 8000000 in
set_option maxRecDepth 100000 in
theorem lc_worth {p : Program} {l : Launch} {e : Env} {s : State} {m : MethodId} {below : List Frame} {meth : Method} {c : Code} {sb L : Nat} {xs : Nat → Int32} {D : va_G} {h0 h1 h2 h3 h4 h5 h6 h7 h8 h9 g0 g1 g2 g3 g4 ho : Nat} {cI cJ : ClassId} {H : Heap} {locs : List Loc} {cells slots : Nat} {Q : State → Prop} {ls : Array Slot} {i : Nat}
    (C0 : lw_At p s m meth c sb L xs) (hfl : l.stackTraces = false) (hK : va_K D vwCl (tX cI cJ) s) (hZ : nk_Z (fun q : Nat => s.heap.size ≤ q) s s.heap) (hc9 : cells + 1 ≤ 1051) (hs9 : slots + 6 ≤ 9300) (hi5 : i + 5 ≤ L) (hL : L ≤ 2560) (hSt : nk_St D (fun q : Nat => s.heap.size ≤ q) h0 h1 h2 h3 h4 h5 h6 h7 h8 h9 g0 g1 g2 g3 g4 ho cI cJ H) (hS : va_S (fun q : Nat => s.heap.size ≤ q) s.heap H locs) (hl : lv_has ls 8 [(0, .ref sb), (1, .ref h0), (2, .ref g0), (3, .ref ho), (4, .int (nI i))])
    (kk : ∀ (H1 : Heap) (locs1 : List Loc) (ls1 : Array Slot), nk_St D (fun q : Nat => s.heap.size ≤ q) h0 h1 h2 h3 h4 h5 h6 h7 h8 h9 g0 g1 g2 g3 g4 ho cI cJ H1 → va_S (fun q : Nat => s.heap.size ≤ q) s.heap H1 locs1 → lv_has ls1 8 [(0, .ref sb), (1, .ref h0), (2, .ref g0), (3, .ref ho), (4, .int (nI i))] → W p l e room_1 s m #[Value.ref sb] below meth c H1 locs1 (cells + 1) (slots + 6) Q (F0 m 877 ls1 [])) : W p l e room_1 s m #[Value.ref sb] below meth c H locs cells slots Q (F0 m 658 ls []) := by
  obtain ⟨hx, hb, hr, hml, hown, hts0, hX, hbl, hlocks, hgv⟩ := C0
  have hts : ∀ w ∈ wsL_law, w.before #[Value.ref sb] s = true := fun w h => hts0 w (wsL_law_in w h)
  have hown : s.vm.findClass RL = some m.cls := hown
  have hA : ∀ q : Nat, s.heap.size ≤ q → (fun q : Nat => s.heap.size ≤ q) q := fun _ h => h
  have hbA : ¬ (fun q : Nat => s.heap.size ≤ q) sb := Nat.not_le.mpr hbl
  obtain ⟨d, r, lc, bg, w, rm, k, pn, fa, e1, am, dd, rt, b, pd, pt, tp, gb, dr, pa, pi, ga, e2, th, og, hI, hP, hD⟩ := hSt
  obtain ⟨hlc, hd, hk, hpn, hbg, hw, hrm, he, hed, hfa, ham, hpd, hpd2, hpt, hbs, hb9, hrt, hdd, hroll, hh1, hh2, hh3, htp, hsa, hk0, he2, he2d, hga, hgb, hgb2, hpi, hdr, hpa1, he20, he21, hk0m, he28, hgbz, halE, hmxE, hlsE⟩ := Inv_f hI
  have hgbp : 0 < gb ↔ 0 < lc := by omega
  refine lv_aload_n hx hb dL_law_658 rfl (lv_at hl 1 rfl) ?_
  have hPc := hP.sub (ws' := wX h0 h1 h2 h3 h4 h5 h6 h7 h8 h9 cI cJ d r lc bg w rm k pn fa e1 am dd rt b pd pt tp) [0, 1, 2, 3, 4, 5, 6, 7, 8, 9] rfl
  refine nk_rd (W.runV (As := []) (rest := []) ⟨hx, hb, hml, hown, hts⟩ (c_X0_worth l D h0 h1 h2 h3 h4 h5 h6 h7 h8 h9 cI cJ d r lc bg w rm k pn fa e1 am dd rt b pd pt tp ) (cwV 0 hts gL_law_X0_worth rfl rfl rfl (by decide +kernel) ⟨Nat.le_of_ble_eq_true rfl, Nat.le_of_ble_eq_true rfl⟩) ⟨nk_Pr.blind, va_recv hK hPc (ci := 0) (q0 := 0) rfl rfl, fun U hU hW => ⟨rfl, by rw [hU]; exact hPc, va_K.moved hW.alike hK⟩⟩ rfl rfl hl.1 rfl (lv_room (Nat.le_of_ble_eq_true rfl)) dL_law_659 ⟨by show cells + 0 ≤ 1051; omega, by show slots + 0 ≤ 9300; omega⟩) ?_
  refine W.eq (g2 := F0 m 662 ls [.int (nI w)]) rfl ?_
  refine lv_aload_n hx hb dL_law_662 rfl (lv_at hl 2 rfl) ?_
  have hPm := hP.sub (ws' := wM g0 g1 g2 g3 g4 cI cJ d r gb w rm lc k dr pn pa pi th ga e2 b rt) [10, 11, 12, 13, 14] rfl
  have hDm := hD.sub (ws' := wM g0 g1 g2 g3 g4 cI cJ d r gb w rm lc k dr pn pa pi th ga e2 b rt) [10, 11, 12, 13, 14] (by decide) rfl
  refine nk_icall (wr := wX h0 h1 h2 h3 h4 h5 h6 h7 h8 h9 cI cJ d r lc bg w rm k pn fa e1 am dd rt b pd pt tp ++ [(ho, .inl (cJ, 1, .inr (.inl (og))))]) (va_runV (As := []) (rest := [.int (nI w)]) ⟨hx, hb, hml, hown, hts⟩ (c_X1_worth l D g0 g1 g2 g3 g4 cI cJ d r gb w rm lc k dr pn pa pi th ga e2 b rt H.size ) (cwV 0 hts gL_law_X1_worth rfl rfl rfl (by decide +kernel) ⟨Nat.le_of_ble_eq_true rfl, Nat.le_of_ble_eq_true rfl⟩) ⟨nk_Pw.blind, va_recv hK hPm (ci := 1) (q0 := 0) rfl rfl, fun U hU hW => ⟨rfl, by rw [hU], by rw [hU]; exact hPm, va_K.moved hW.alike hK, hDm.weaken (fun _ _ _ _ => trivial)⟩⟩ rfl rfl hl.1 rfl (lv_room (Nat.le_of_ble_eq_true rfl)) dL_law_663 ⟨by show cells + 0 ≤ 1051; omega, by show slots + 0 ≤ 9300; omega⟩) hP hD hS hA [10, 11, 12, 13, 14] [0, 1, 2, 3, 4, 5, 6, 7, 8, 9, 15] rfl rfl rfl (by decide) (fun r9 w1 H locs hw9 hP hD hS hk9 => ?_)
  obtain ⟨rfl, rfl⟩ := hw9
  have hP := hP.sub (ws' := wX h0 h1 h2 h3 h4 h5 h6 h7 h8 h9 cI cJ d r lc bg w rm k pn fa e1 am dd rt b pd pt tp ++ (wM g0 g1 g2 g3 g4 cI cJ d r gb w rm lc k dr pn pa pi 0 ga e2 b rt ++ [(ho, .inl (cJ, 1, .inr (.inl (og))))])) [0, 1, 2, 3, 4, 5, 6, 7, 8, 9, 11, 12, 13, 14, 15, 10] rfl
  have hD := hD.sub (ws' := wX h0 h1 h2 h3 h4 h5 h6 h7 h8 h9 cI cJ d r lc bg w rm k pn fa e1 am dd rt b pd pt tp ++ (wM g0 g1 g2 g3 g4 cI cJ d r gb w rm lc k dr pn pa pi 0 ga e2 b rt ++ [(ho, .inl (cJ, 1, .inr (.inl (og))))])) [0, 1, 2, 3, 4, 5, 6, 7, 8, 9, 11, 12, 13, 14, 15, 10] (by decide) rfl
  refine nk_isame (tgt := 877) hx hb rfl dL_law_666 (by decide) ?_
  refine W.widen (k := cells + 1) (n := slots + 6) (by omega) (by omega) ?_
  exact kk _ _ _ ⟨_, _, _, _, _, _, _, _, _, _, _, _, _, _, _, _, _, _, _, _, _, _, _, _, _, hI, hP, hD⟩ hS (lv_sub hl [0, 1, 2, 3, 4] rfl)
set_option maxHeartbeats 8000000 in
set_option maxRecDepth 100000 in
theorem lc_room {p : Program} {l : Launch} {e : Env} {s : State} {m : MethodId} {below : List Frame} {meth : Method} {c : Code} {sb L : Nat} {xs : Nat → Int32} {D : va_G} {h0 h1 h2 h3 h4 h5 h6 h7 h8 h9 g0 g1 g2 g3 g4 ho : Nat} {cI cJ : ClassId} {H : Heap} {locs : List Loc} {cells slots : Nat} {Q : State → Prop} {ls : Array Slot} {i : Nat}
    (C0 : lw_At p s m meth c sb L xs) (hfl : l.stackTraces = false) (hK : va_K D vwCl (tX cI cJ) s) (hZ : nk_Z (fun q : Nat => s.heap.size ≤ q) s s.heap) (hc9 : cells + 1 ≤ 1051) (hs9 : slots + 6 ≤ 9300) (hi5 : i + 5 ≤ L) (hL : L ≤ 2560) (hSt : nk_St D (fun q : Nat => s.heap.size ≤ q) h0 h1 h2 h3 h4 h5 h6 h7 h8 h9 g0 g1 g2 g3 g4 ho cI cJ H) (hS : va_S (fun q : Nat => s.heap.size ≤ q) s.heap H locs) (hl : lv_has ls 8 [(0, .ref sb), (1, .ref h0), (2, .ref g0), (3, .ref ho), (4, .int (nI i))])
    (kk : ∀ (H1 : Heap) (locs1 : List Loc) (ls1 : Array Slot), nk_St D (fun q : Nat => s.heap.size ≤ q) h0 h1 h2 h3 h4 h5 h6 h7 h8 h9 g0 g1 g2 g3 g4 ho cI cJ H1 → va_S (fun q : Nat => s.heap.size ≤ q) s.heap H1 locs1 → lv_has ls1 8 [(0, .ref sb), (1, .ref h0), (2, .ref g0), (3, .ref ho), (4, .int (nI i))] → W p l e room_1 s m #[Value.ref sb] below meth c H1 locs1 (cells + 1) (slots + 6) Q (F0 m 877 ls1 [])) : W p l e room_1 s m #[Value.ref sb] below meth c H locs cells slots Q (F0 m 671 ls []) := by
  obtain ⟨hx, hb, hr, hml, hown, hts0, hX, hbl, hlocks, hgv⟩ := C0
  have hts : ∀ w ∈ wsL_law, w.before #[Value.ref sb] s = true := fun w h => hts0 w (wsL_law_in w h)
  have hown : s.vm.findClass RL = some m.cls := hown
  have hA : ∀ q : Nat, s.heap.size ≤ q → (fun q : Nat => s.heap.size ≤ q) q := fun _ h => h
  have hbA : ¬ (fun q : Nat => s.heap.size ≤ q) sb := Nat.not_le.mpr hbl
  obtain ⟨d, r, lc, bg, w, rm, k, pn, fa, e1, am, dd, rt, b, pd, pt, tp, gb, dr, pa, pi, ga, e2, th, og, hI, hP, hD⟩ := hSt
  obtain ⟨hlc, hd, hk, hpn, hbg, hw, hrm, he, hed, hfa, ham, hpd, hpd2, hpt, hbs, hb9, hrt, hdd, hroll, hh1, hh2, hh3, htp, hsa, hk0, he2, he2d, hga, hgb, hgb2, hpi, hdr, hpa1, he20, he21, hk0m, he28, hgbz, halE, hmxE, hlsE⟩ := Inv_f hI
  have hgbp : 0 < gb ↔ 0 < lc := by omega
  refine lv_aload_n hx hb dL_law_671 rfl (lv_at hl 1 rfl) ?_
  have hPc := hP.sub (ws' := wX h0 h1 h2 h3 h4 h5 h6 h7 h8 h9 cI cJ d r lc bg w rm k pn fa e1 am dd rt b pd pt tp) [0, 1, 2, 3, 4, 5, 6, 7, 8, 9] rfl
  refine nk_rd (W.runV (As := []) (rest := []) ⟨hx, hb, hml, hown, hts⟩ (c_X0_room l D h0 h1 h2 h3 h4 h5 h6 h7 h8 h9 cI cJ d r lc bg w rm k pn fa e1 am dd rt b pd pt tp ) (cwV 0 hts gL_law_X0_room rfl rfl rfl (by decide +kernel) ⟨Nat.le_of_ble_eq_true rfl, Nat.le_of_ble_eq_true rfl⟩) ⟨nk_Pr.blind, va_recv hK hPc (ci := 0) (q0 := 0) rfl rfl, fun U hU hW => ⟨rfl, by rw [hU]; exact hPc, va_K.moved hW.alike hK⟩⟩ rfl rfl hl.1 rfl (lv_room (Nat.le_of_ble_eq_true rfl)) dL_law_672 ⟨by show cells + 0 ≤ 1051; omega, by show slots + 0 ≤ 9300; omega⟩) ?_
  refine W.eq (g2 := F0 m 675 ls [.int (nI rm)]) rfl ?_
  refine lv_aload_n hx hb dL_law_675 rfl (lv_at hl 2 rfl) ?_
  have hPm := hP.sub (ws' := wM g0 g1 g2 g3 g4 cI cJ d r gb w rm lc k dr pn pa pi th ga e2 b rt) [10, 11, 12, 13, 14] rfl
  have hDm := hD.sub (ws' := wM g0 g1 g2 g3 g4 cI cJ d r gb w rm lc k dr pn pa pi th ga e2 b rt) [10, 11, 12, 13, 14] (by decide) rfl
  refine nk_icall (wr := wX h0 h1 h2 h3 h4 h5 h6 h7 h8 h9 cI cJ d r lc bg w rm k pn fa e1 am dd rt b pd pt tp ++ [(ho, .inl (cJ, 1, .inr (.inl (og))))]) (va_runV (As := []) (rest := [.int (nI rm)]) ⟨hx, hb, hml, hown, hts⟩ (c_X1_room l D g0 g1 g2 g3 g4 cI cJ d r gb w rm lc k dr pn pa pi th ga e2 b rt H.size ) (cwV 0 hts gL_law_X1_room rfl rfl rfl (by decide +kernel) ⟨Nat.le_of_ble_eq_true rfl, Nat.le_of_ble_eq_true rfl⟩) ⟨nk_Pw.blind, va_recv hK hPm (ci := 1) (q0 := 0) rfl rfl, fun U hU hW => ⟨rfl, by rw [hU], by rw [hU]; exact hPm, va_K.moved hW.alike hK, hDm.weaken (fun _ _ _ _ => trivial)⟩⟩ rfl rfl hl.1 rfl (lv_room (Nat.le_of_ble_eq_true rfl)) dL_law_676 ⟨by show cells + 0 ≤ 1051; omega, by show slots + 0 ≤ 9300; omega⟩) hP hD hS hA [10, 11, 12, 13, 14] [0, 1, 2, 3, 4, 5, 6, 7, 8, 9, 15] rfl rfl rfl (by decide) (fun r9 w1 H locs hw9 hP hD hS hk9 => ?_)
  obtain ⟨rfl, rfl⟩ := hw9
  have hP := hP.sub (ws' := wX h0 h1 h2 h3 h4 h5 h6 h7 h8 h9 cI cJ d r lc bg w rm k pn fa e1 am dd rt b pd pt tp ++ (wM g0 g1 g2 g3 g4 cI cJ d r gb w rm lc k dr pn pa pi 0 ga e2 b rt ++ [(ho, .inl (cJ, 1, .inr (.inl (og))))])) [0, 1, 2, 3, 4, 5, 6, 7, 8, 9, 11, 12, 13, 14, 15, 10] rfl
  have hD := hD.sub (ws' := wX h0 h1 h2 h3 h4 h5 h6 h7 h8 h9 cI cJ d r lc bg w rm k pn fa e1 am dd rt b pd pt tp ++ (wM g0 g1 g2 g3 g4 cI cJ d r gb w rm lc k dr pn pa pi 0 ga e2 b rt ++ [(ho, .inl (cJ, 1, .inr (.inl (og))))])) [0, 1, 2, 3, 4, 5, 6, 7, 8, 9, 11, 12, 13, 14, 15, 10] (by decide) rfl
  refine nk_isame (tgt := 877) hx hb rfl dL_law_679 (by decide) ?_
  refine W.widen (k := cells + 1) (n := slots + 6) (by omega) (by omega) ?_
  exact kk _ _ _ ⟨_, _, _, _, _, _, _, _, _, _, _, _, _, _, _, _, _, _, _, _, _, _, _, _, _, hI, hP, hD⟩ hS (lv_sub hl [0, 1, 2, 3, 4] rfl)
set_option maxHeartbeats 8000000 in
set_option maxRecDepth 100000 in
theorem lc_drawings {p : Program} {l : Launch} {e : Env} {s : State} {m : MethodId} {below : List Frame} {meth : Method} {c : Code} {sb L : Nat} {xs : Nat → Int32} {D : va_G} {h0 h1 h2 h3 h4 h5 h6 h7 h8 h9 g0 g1 g2 g3 g4 ho : Nat} {cI cJ : ClassId} {H : Heap} {locs : List Loc} {cells slots : Nat} {Q : State → Prop} {ls : Array Slot} {i : Nat}
    (C0 : lw_At p s m meth c sb L xs) (hfl : l.stackTraces = false) (hK : va_K D vwCl (tX cI cJ) s) (hZ : nk_Z (fun q : Nat => s.heap.size ≤ q) s s.heap) (hc9 : cells + 1 ≤ 1051) (hs9 : slots + 6 ≤ 9300) (hi5 : i + 5 ≤ L) (hL : L ≤ 2560) (hSt : nk_St D (fun q : Nat => s.heap.size ≤ q) h0 h1 h2 h3 h4 h5 h6 h7 h8 h9 g0 g1 g2 g3 g4 ho cI cJ H) (hS : va_S (fun q : Nat => s.heap.size ≤ q) s.heap H locs) (hl : lv_has ls 8 [(0, .ref sb), (1, .ref h0), (2, .ref g0), (3, .ref ho), (4, .int (nI i))])
    (kk : ∀ (H1 : Heap) (locs1 : List Loc) (ls1 : Array Slot), nk_St D (fun q : Nat => s.heap.size ≤ q) h0 h1 h2 h3 h4 h5 h6 h7 h8 h9 g0 g1 g2 g3 g4 ho cI cJ H1 → va_S (fun q : Nat => s.heap.size ≤ q) s.heap H1 locs1 → lv_has ls1 8 [(0, .ref sb), (1, .ref h0), (2, .ref g0), (3, .ref ho), (4, .int (nI i))] → W p l e room_1 s m #[Value.ref sb] below meth c H1 locs1 (cells + 1) (slots + 6) Q (F0 m 877 ls1 [])) : W p l e room_1 s m #[Value.ref sb] below meth c H locs cells slots Q (F0 m 684 ls []) := by
  obtain ⟨hx, hb, hr, hml, hown, hts0, hX, hbl, hlocks, hgv⟩ := C0
  have hts : ∀ w ∈ wsL_law, w.before #[Value.ref sb] s = true := fun w h => hts0 w (wsL_law_in w h)
  have hown : s.vm.findClass RL = some m.cls := hown
  have hA : ∀ q : Nat, s.heap.size ≤ q → (fun q : Nat => s.heap.size ≤ q) q := fun _ h => h
  have hbA : ¬ (fun q : Nat => s.heap.size ≤ q) sb := Nat.not_le.mpr hbl
  obtain ⟨d, r, lc, bg, w, rm, k, pn, fa, e1, am, dd, rt, b, pd, pt, tp, gb, dr, pa, pi, ga, e2, th, og, hI, hP, hD⟩ := hSt
  obtain ⟨hlc, hd, hk, hpn, hbg, hw, hrm, he, hed, hfa, ham, hpd, hpd2, hpt, hbs, hb9, hrt, hdd, hroll, hh1, hh2, hh3, htp, hsa, hk0, he2, he2d, hga, hgb, hgb2, hpi, hdr, hpa1, he20, he21, hk0m, he28, hgbz, halE, hmxE, hlsE⟩ := Inv_f hI
  have hgbp : 0 < gb ↔ 0 < lc := by omega
  refine lv_aload_n hx hb dL_law_684 rfl (lv_at hl 1 rfl) ?_
  have hPc := hP.sub (ws' := wX h0 h1 h2 h3 h4 h5 h6 h7 h8 h9 cI cJ d r lc bg w rm k pn fa e1 am dd rt b pd pt tp) [0, 1, 2, 3, 4, 5, 6, 7, 8, 9] rfl
  refine nk_rd (W.runV (As := []) (rest := []) ⟨hx, hb, hml, hown, hts⟩ (c_X0_drawings l D h0 h1 h2 h3 h4 h5 h6 h7 h8 h9 cI cJ d r lc bg w rm k pn fa e1 am dd rt b pd pt tp ) (cwV 0 hts gL_law_X0_drawings rfl rfl rfl (by decide +kernel) ⟨Nat.le_of_ble_eq_true rfl, Nat.le_of_ble_eq_true rfl⟩) ⟨nk_Pr.blind, va_recv hK hPc (ci := 0) (q0 := 0) rfl rfl, fun U hU hW => ⟨rfl, by rw [hU]; exact hPc, va_K.moved hW.alike hK⟩⟩ rfl rfl hl.1 rfl (lv_room (Nat.le_of_ble_eq_true rfl)) dL_law_685 ⟨by show cells + 0 ≤ 1051; omega, by show slots + 0 ≤ 9300; omega⟩) ?_
  refine W.eq (g2 := F0 m 688 ls [.int (nI k)]) rfl ?_
  refine lv_aload_n hx hb dL_law_688 rfl (lv_at hl 2 rfl) ?_
  have hPm := hP.sub (ws' := wM g0 g1 g2 g3 g4 cI cJ d r gb w rm lc k dr pn pa pi th ga e2 b rt) [10, 11, 12, 13, 14] rfl
  have hDm := hD.sub (ws' := wM g0 g1 g2 g3 g4 cI cJ d r gb w rm lc k dr pn pa pi th ga e2 b rt) [10, 11, 12, 13, 14] (by decide) rfl
  refine nk_icall (wr := wX h0 h1 h2 h3 h4 h5 h6 h7 h8 h9 cI cJ d r lc bg w rm k pn fa e1 am dd rt b pd pt tp ++ [(ho, .inl (cJ, 1, .inr (.inl (og))))]) (va_runV (As := []) (rest := [.int (nI k)]) ⟨hx, hb, hml, hown, hts⟩ (c_X1_drawings l D g0 g1 g2 g3 g4 cI cJ d r gb w rm lc k dr pn pa pi th ga e2 b rt H.size ) (cwV 0 hts gL_law_X1_drawings rfl rfl rfl (by decide +kernel) ⟨Nat.le_of_ble_eq_true rfl, Nat.le_of_ble_eq_true rfl⟩) ⟨nk_Pw.blind, va_recv hK hPm (ci := 1) (q0 := 0) rfl rfl, fun U hU hW => ⟨rfl, by rw [hU], by rw [hU]; exact hPm, va_K.moved hW.alike hK, hDm.weaken (fun _ _ _ _ => trivial)⟩⟩ rfl rfl hl.1 rfl (lv_room (Nat.le_of_ble_eq_true rfl)) dL_law_689 ⟨by show cells + 0 ≤ 1051; omega, by show slots + 0 ≤ 9300; omega⟩) hP hD hS hA [10, 11, 12, 13, 14] [0, 1, 2, 3, 4, 5, 6, 7, 8, 9, 15] rfl rfl rfl (by decide) (fun r9 w1 H locs hw9 hP hD hS hk9 => ?_)
  obtain ⟨rfl, rfl⟩ := hw9
  have hP := hP.sub (ws' := wX h0 h1 h2 h3 h4 h5 h6 h7 h8 h9 cI cJ d r lc bg w rm k pn fa e1 am dd rt b pd pt tp ++ (wM g0 g1 g2 g3 g4 cI cJ d r gb w rm lc k dr pn pa pi 0 ga e2 b rt ++ [(ho, .inl (cJ, 1, .inr (.inl (og))))])) [0, 1, 2, 3, 4, 5, 6, 7, 8, 9, 11, 12, 13, 14, 15, 10] rfl
  have hD := hD.sub (ws' := wX h0 h1 h2 h3 h4 h5 h6 h7 h8 h9 cI cJ d r lc bg w rm k pn fa e1 am dd rt b pd pt tp ++ (wM g0 g1 g2 g3 g4 cI cJ d r gb w rm lc k dr pn pa pi 0 ga e2 b rt ++ [(ho, .inl (cJ, 1, .inr (.inl (og))))])) [0, 1, 2, 3, 4, 5, 6, 7, 8, 9, 11, 12, 13, 14, 15, 10] (by decide) rfl
  refine nk_isame (tgt := 877) hx hb rfl dL_law_692 (by decide) ?_
  refine W.widen (k := cells + 1) (n := slots + 6) (by omega) (by omega) ?_
  exact kk _ _ _ ⟨_, _, _, _, _, _, _, _, _, _, _, _, _, _, _, _, _, _, _, _, _, _, _, _, _, hI, hP, hD⟩ hS (lv_sub hl [0, 1, 2, 3, 4] rfl)
set_option maxHeartbeats 8000000 in
set_option maxRecDepth 100000 in
theorem lc_debt {p : Program} {l : Launch} {e : Env} {s : State} {m : MethodId} {below : List Frame} {meth : Method} {c : Code} {sb L : Nat} {xs : Nat → Int32} {D : va_G} {h0 h1 h2 h3 h4 h5 h6 h7 h8 h9 g0 g1 g2 g3 g4 ho : Nat} {cI cJ : ClassId} {H : Heap} {locs : List Loc} {cells slots : Nat} {Q : State → Prop} {ls : Array Slot} {i : Nat}
    (C0 : lw_At p s m meth c sb L xs) (hfl : l.stackTraces = false) (hK : va_K D vwCl (tX cI cJ) s) (hZ : nk_Z (fun q : Nat => s.heap.size ≤ q) s s.heap) (hc9 : cells + 1 ≤ 1051) (hs9 : slots + 6 ≤ 9300) (hi5 : i + 5 ≤ L) (hL : L ≤ 2560) (hSt : nk_St D (fun q : Nat => s.heap.size ≤ q) h0 h1 h2 h3 h4 h5 h6 h7 h8 h9 g0 g1 g2 g3 g4 ho cI cJ H) (hS : va_S (fun q : Nat => s.heap.size ≤ q) s.heap H locs) (hl : lv_has ls 8 [(0, .ref sb), (1, .ref h0), (2, .ref g0), (3, .ref ho), (4, .int (nI i))])
    (kk : ∀ (H1 : Heap) (locs1 : List Loc) (ls1 : Array Slot), nk_St D (fun q : Nat => s.heap.size ≤ q) h0 h1 h2 h3 h4 h5 h6 h7 h8 h9 g0 g1 g2 g3 g4 ho cI cJ H1 → va_S (fun q : Nat => s.heap.size ≤ q) s.heap H1 locs1 → lv_has ls1 8 [(0, .ref sb), (1, .ref h0), (2, .ref g0), (3, .ref ho), (4, .int (nI i))] → W p l e room_1 s m #[Value.ref sb] below meth c H1 locs1 (cells + 1) (slots + 6) Q (F0 m 877 ls1 [])) : W p l e room_1 s m #[Value.ref sb] below meth c H locs cells slots Q (F0 m 752 ls []) := by
  obtain ⟨hx, hb, hr, hml, hown, hts0, hX, hbl, hlocks, hgv⟩ := C0
  have hts : ∀ w ∈ wsL_law, w.before #[Value.ref sb] s = true := fun w h => hts0 w (wsL_law_in w h)
  have hown : s.vm.findClass RL = some m.cls := hown
  have hA : ∀ q : Nat, s.heap.size ≤ q → (fun q : Nat => s.heap.size ≤ q) q := fun _ h => h
  have hbA : ¬ (fun q : Nat => s.heap.size ≤ q) sb := Nat.not_le.mpr hbl
  obtain ⟨d, r, lc, bg, w, rm, k, pn, fa, e1, am, dd, rt, b, pd, pt, tp, gb, dr, pa, pi, ga, e2, th, og, hI, hP, hD⟩ := hSt
  obtain ⟨hlc, hd, hk, hpn, hbg, hw, hrm, he, hed, hfa, ham, hpd, hpd2, hpt, hbs, hb9, hrt, hdd, hroll, hh1, hh2, hh3, htp, hsa, hk0, he2, he2d, hga, hgb, hgb2, hpi, hdr, hpa1, he20, he21, hk0m, he28, hgbz, halE, hmxE, hlsE⟩ := Inv_f hI
  have hgbp : 0 < gb ↔ 0 < lc := by omega
  refine lv_aload_n hx hb dL_law_752 rfl (lv_at hl 1 rfl) ?_
  have hPc := hP.sub (ws' := wX h0 h1 h2 h3 h4 h5 h6 h7 h8 h9 cI cJ d r lc bg w rm k pn fa e1 am dd rt b pd pt tp) [0, 1, 2, 3, 4, 5, 6, 7, 8, 9] rfl
  refine nk_rd (W.runV (As := []) (rest := []) ⟨hx, hb, hml, hown, hts⟩ (c_X0_debt l D h0 h1 h2 h3 h4 h5 h6 h7 h8 h9 cI cJ d r lc bg w rm k pn fa e1 am dd rt b pd pt tp hk (by omega)) (cwV 0 hts gL_law_X0_debt rfl rfl rfl (by decide +kernel) ⟨Nat.le_of_ble_eq_true rfl, Nat.le_of_ble_eq_true rfl⟩) ⟨nk_Pr.blind, va_recv hK hPc (ci := 0) (q0 := 0) rfl rfl, fun U hU hW => ⟨rfl, by rw [hU]; exact hPc, va_K.moved hW.alike hK⟩⟩ rfl rfl hl.1 rfl (lv_room (Nat.le_of_ble_eq_true rfl)) dL_law_753 ⟨by show cells + 0 ≤ 1051; omega, by show slots + 0 ≤ 9300; omega⟩) ?_
  refine W.eq (g2 := F0 m 756 ls [.long (lN (ceilA (sm b k)))]) rfl ?_
  refine lv_aload_n hx hb dL_law_756 rfl (lv_at hl 2 rfl) ?_
  have hPm := hP.sub (ws' := wM g0 g1 g2 g3 g4 cI cJ d r gb w rm lc k dr pn pa pi th ga e2 b rt) [10, 11, 12, 13, 14] rfl
  have hDm := hD.sub (ws' := wM g0 g1 g2 g3 g4 cI cJ d r gb w rm lc k dr pn pa pi th ga e2 b rt) [10, 11, 12, 13, 14] (by decide) rfl
  refine nk_lcall (wr := wX h0 h1 h2 h3 h4 h5 h6 h7 h8 h9 cI cJ d r lc bg w rm k pn fa e1 am dd rt b pd pt tp ++ [(ho, .inl (cJ, 1, .inr (.inl (og))))]) (va_runV (As := []) (rest := [.long (lN (ceilA (sm b k)))]) ⟨hx, hb, hml, hown, hts⟩ (c_X1_debt l D g0 g1 g2 g3 g4 cI cJ d r gb w rm lc k dr pn pa pi th ga e2 b rt H.size hk (by omega)) (cwV 0 hts gL_law_X1_debt rfl rfl rfl (by decide +kernel) ⟨Nat.le_of_ble_eq_true rfl, Nat.le_of_ble_eq_true rfl⟩) ⟨nk_Pw.blind, va_recv hK hPm (ci := 1) (q0 := 0) rfl rfl, fun U hU hW => ⟨rfl, by rw [hU], by rw [hU]; exact hPm, va_K.moved hW.alike hK, hDm.weaken (fun _ _ _ _ => trivial)⟩⟩ rfl rfl hl.1 rfl (lv_room (Nat.le_of_ble_eq_true rfl)) dL_law_757 ⟨by show cells + 0 ≤ 1051; omega, by show slots + 0 ≤ 9300; omega⟩) hP hD hS hA [10, 11, 12, 13, 14] [0, 1, 2, 3, 4, 5, 6, 7, 8, 9, 15] rfl rfl rfl (by decide) (fun r9 w1 H locs hw9 hP hD hS hk9 => ?_)
  obtain ⟨rfl, rfl⟩ := hw9
  have hP := hP.sub (ws' := wX h0 h1 h2 h3 h4 h5 h6 h7 h8 h9 cI cJ d r lc bg w rm k pn fa e1 am dd rt b pd pt tp ++ (wM g0 g1 g2 g3 g4 cI cJ d r gb w rm lc k dr pn pa pi 0 ga e2 b rt ++ [(ho, .inl (cJ, 1, .inr (.inl (og))))])) [0, 1, 2, 3, 4, 5, 6, 7, 8, 9, 11, 12, 13, 14, 15, 10] rfl
  have hD := hD.sub (ws' := wX h0 h1 h2 h3 h4 h5 h6 h7 h8 h9 cI cJ d r lc bg w rm k pn fa e1 am dd rt b pd pt tp ++ (wM g0 g1 g2 g3 g4 cI cJ d r gb w rm lc k dr pn pa pi 0 ga e2 b rt ++ [(ho, .inl (cJ, 1, .inr (.inl (og))))])) [0, 1, 2, 3, 4, 5, 6, 7, 8, 9, 11, 12, 13, 14, 15, 10] (by decide) rfl
  refine nk_lsame (tgt := 877) hx hb rfl dL_law_760 dL_law_761 (by decide) ?_
  refine W.widen (k := cells + 1) (n := slots + 6) (by omega) (by omega) ?_
  exact kk _ _ _ ⟨_, _, _, _, _, _, _, _, _, _, _, _, _, _, _, _, _, _, _, _, _, _, _, _, _, hI, hP, hD⟩ hS (lv_sub hl [0, 1, 2, 3, 4] rfl)
set_option maxHeartbeats 8000000 in
set_option maxRecDepth 100000 in
theorem lc_debtAnew {p : Program} {l : Launch} {e : Env} {s : State} {m : MethodId} {below : List Frame} {meth : Method} {c : Code} {sb L : Nat} {xs : Nat → Int32} {D : va_G} {h0 h1 h2 h3 h4 h5 h6 h7 h8 h9 g0 g1 g2 g3 g4 ho : Nat} {cI cJ : ClassId} {H : Heap} {locs : List Loc} {cells slots : Nat} {Q : State → Prop} {ls : Array Slot} {i : Nat}
    (C0 : lw_At p s m meth c sb L xs) (hfl : l.stackTraces = false) (hK : va_K D vwCl (tX cI cJ) s) (hZ : nk_Z (fun q : Nat => s.heap.size ≤ q) s s.heap) (hc9 : cells + 1 ≤ 1051) (hs9 : slots + 6 ≤ 9300) (hi5 : i + 5 ≤ L) (hL : L ≤ 2560) (hSt : nk_St D (fun q : Nat => s.heap.size ≤ q) h0 h1 h2 h3 h4 h5 h6 h7 h8 h9 g0 g1 g2 g3 g4 ho cI cJ H) (hS : va_S (fun q : Nat => s.heap.size ≤ q) s.heap H locs) (hl : lv_has ls 8 [(0, .ref sb), (1, .ref h0), (2, .ref g0), (3, .ref ho), (4, .int (nI i))])
    (kk : ∀ (H1 : Heap) (locs1 : List Loc) (ls1 : Array Slot), nk_St D (fun q : Nat => s.heap.size ≤ q) h0 h1 h2 h3 h4 h5 h6 h7 h8 h9 g0 g1 g2 g3 g4 ho cI cJ H1 → va_S (fun q : Nat => s.heap.size ≤ q) s.heap H1 locs1 → lv_has ls1 8 [(0, .ref sb), (1, .ref h0), (2, .ref g0), (3, .ref ho), (4, .int (nI i))] → W p l e room_1 s m #[Value.ref sb] below meth c H1 locs1 (cells + 1) (slots + 6) Q (F0 m 877 ls1 [])) : W p l e room_1 s m #[Value.ref sb] below meth c H locs cells slots Q (F0 m 766 ls []) := by
  obtain ⟨hx, hb, hr, hml, hown, hts0, hX, hbl, hlocks, hgv⟩ := C0
  have hts : ∀ w ∈ wsL_law, w.before #[Value.ref sb] s = true := fun w h => hts0 w (wsL_law_in w h)
  have hown : s.vm.findClass RL = some m.cls := hown
  have hA : ∀ q : Nat, s.heap.size ≤ q → (fun q : Nat => s.heap.size ≤ q) q := fun _ h => h
  have hbA : ¬ (fun q : Nat => s.heap.size ≤ q) sb := Nat.not_le.mpr hbl
  obtain ⟨d, r, lc, bg, w, rm, k, pn, fa, e1, am, dd, rt, b, pd, pt, tp, gb, dr, pa, pi, ga, e2, th, og, hI, hP, hD⟩ := hSt
  obtain ⟨hlc, hd, hk, hpn, hbg, hw, hrm, he, hed, hfa, ham, hpd, hpd2, hpt, hbs, hb9, hrt, hdd, hroll, hh1, hh2, hh3, htp, hsa, hk0, he2, he2d, hga, hgb, hgb2, hpi, hdr, hpa1, he20, he21, hk0m, he28, hgbz, halE, hmxE, hlsE⟩ := Inv_f hI
  have hgbp : 0 < gb ↔ 0 < lc := by omega
  refine lv_aload_n hx hb dL_law_766 rfl (lv_at hl 1 rfl) ?_
  have hPc := hP.sub (ws' := wX h0 h1 h2 h3 h4 h5 h6 h7 h8 h9 cI cJ d r lc bg w rm k pn fa e1 am dd rt b pd pt tp) [0, 1, 2, 3, 4, 5, 6, 7, 8, 9] rfl
  refine nk_rd (W.runV (As := []) (rest := []) ⟨hx, hb, hml, hown, hts⟩ (c_X0_debtAnew l D h0 h1 h2 h3 h4 h5 h6 h7 h8 h9 cI cJ d r lc bg w rm k pn fa e1 am dd rt b pd pt tp hpn hk hlc he hd ham hrt hdd hpd2 hh1 hh2 hh3 htp (by rw [hsa]; omega)) (cwV 0 hts gL_law_X0_debtAnew rfl rfl rfl (by decide +kernel) ⟨Nat.le_of_ble_eq_true rfl, Nat.le_of_ble_eq_true rfl⟩) ⟨nk_Pr.blind, va_recv hK hPc (ci := 0) (q0 := 0) rfl rfl, fun U hU hW => ⟨rfl, by rw [hU]; exact hPc, va_K.moved hW.alike hK⟩⟩ rfl rfl hl.1 rfl (lv_room (Nat.le_of_ble_eq_true rfl)) dL_law_767 ⟨by show cells + 0 ≤ 1051; omega, by show slots + 0 ≤ 9300; omega⟩) ?_
  refine W.eq (g2 := F0 m 770 ls [.long (lN (ceilA (sm (anw am dd rt pd tp (dyE d lc e1) pn) k)))]) rfl ?_
  refine lv_aload_n hx hb dL_law_770 rfl (lv_at hl 2 rfl) ?_
  have hPm := hP.sub (ws' := wM g0 g1 g2 g3 g4 cI cJ d r gb w rm lc k dr pn pa pi th ga e2 b rt) [10, 11, 12, 13, 14] rfl
  have hDm := hD.sub (ws' := wM g0 g1 g2 g3 g4 cI cJ d r gb w rm lc k dr pn pa pi th ga e2 b rt) [10, 11, 12, 13, 14] (by decide) rfl
  refine nk_lcall (wr := wX h0 h1 h2 h3 h4 h5 h6 h7 h8 h9 cI cJ d r lc bg w rm k pn fa e1 am dd rt b pd pt tp ++ [(ho, .inl (cJ, 1, .inr (.inl (og))))]) (va_runV (As := []) (rest := [.long (lN (ceilA (sm (anw am dd rt pd tp (dyE d lc e1) pn) k)))]) ⟨hx, hb, hml, hown, hts⟩ (c_X1_debtAnew l D g0 g1 g2 g3 g4 cI cJ d r gb w rm lc k dr pn pa pi th ga e2 b rt H.size hk (by omega)) (cwV 0 hts gL_law_X1_debtAnew rfl rfl rfl (by decide +kernel) ⟨Nat.le_of_ble_eq_true rfl, Nat.le_of_ble_eq_true rfl⟩) ⟨nk_Pw.blind, va_recv hK hPm (ci := 1) (q0 := 0) rfl rfl, fun U hU hW => ⟨rfl, by rw [hU], by rw [hU]; exact hPm, va_K.moved hW.alike hK, hDm.weaken (fun _ _ _ _ => trivial)⟩⟩ rfl rfl hl.1 rfl (lv_room (Nat.le_of_ble_eq_true rfl)) dL_law_771 ⟨by show cells + 0 ≤ 1051; omega, by show slots + 0 ≤ 9300; omega⟩) hP hD hS hA [10, 11, 12, 13, 14] [0, 1, 2, 3, 4, 5, 6, 7, 8, 9, 15] rfl rfl rfl (by decide) (fun r9 w1 H locs hw9 hP hD hS hk9 => ?_)
  obtain ⟨rfl, rfl⟩ := hw9
  have hP := hP.sub (ws' := wX h0 h1 h2 h3 h4 h5 h6 h7 h8 h9 cI cJ d r lc bg w rm k pn fa e1 am dd rt b pd pt tp ++ (wM g0 g1 g2 g3 g4 cI cJ d r gb w rm lc k dr pn pa pi 0 ga e2 b rt ++ [(ho, .inl (cJ, 1, .inr (.inl (og))))])) [0, 1, 2, 3, 4, 5, 6, 7, 8, 9, 11, 12, 13, 14, 15, 10] rfl
  have hD := hD.sub (ws' := wX h0 h1 h2 h3 h4 h5 h6 h7 h8 h9 cI cJ d r lc bg w rm k pn fa e1 am dd rt b pd pt tp ++ (wM g0 g1 g2 g3 g4 cI cJ d r gb w rm lc k dr pn pa pi 0 ga e2 b rt ++ [(ho, .inl (cJ, 1, .inr (.inl (og))))])) [0, 1, 2, 3, 4, 5, 6, 7, 8, 9, 11, 12, 13, 14, 15, 10] (by decide) rfl
  refine nk_lsame (tgt := 877) hx hb (by rw [hsa]) dL_law_774 dL_law_775 (by decide) ?_
  refine W.widen (k := cells + 1) (n := slots + 6) (by omega) (by omega) ?_
  exact kk _ _ _ ⟨_, _, _, _, _, _, _, _, _, _, _, _, _, _, _, _, _, _, _, _, _, _, _, _, _, hI, hP, hD⟩ hS (lv_sub hl [0, 1, 2, 3, 4] rfl)
set_option maxHeartbeats 8000000 in
set_option maxRecDepth 100000 in
theorem lc_owed {p : Program} {l : Launch} {e : Env} {s : State} {m : MethodId} {below : List Frame} {meth : Method} {c : Code} {sb L : Nat} {xs : Nat → Int32} {D : va_G} {h0 h1 h2 h3 h4 h5 h6 h7 h8 h9 g0 g1 g2 g3 g4 ho : Nat} {cI cJ : ClassId} {H : Heap} {locs : List Loc} {cells slots : Nat} {Q : State → Prop} {ls : Array Slot} {i : Nat}
    (C0 : lw_At p s m meth c sb L xs) (hfl : l.stackTraces = false) (hK : va_K D vwCl (tX cI cJ) s) (hZ : nk_Z (fun q : Nat => s.heap.size ≤ q) s s.heap) (hc9 : cells + 1 ≤ 1051) (hs9 : slots + 6 ≤ 9300) (hi5 : i + 5 ≤ L) (hL : L ≤ 2560) (hSt : nk_St D (fun q : Nat => s.heap.size ≤ q) h0 h1 h2 h3 h4 h5 h6 h7 h8 h9 g0 g1 g2 g3 g4 ho cI cJ H) (hS : va_S (fun q : Nat => s.heap.size ≤ q) s.heap H locs) (hl : lv_has ls 8 [(0, .ref sb), (1, .ref h0), (2, .ref g0), (3, .ref ho), (4, .int (nI i))])
    (kk : ∀ (H1 : Heap) (locs1 : List Loc) (ls1 : Array Slot), nk_St D (fun q : Nat => s.heap.size ≤ q) h0 h1 h2 h3 h4 h5 h6 h7 h8 h9 g0 g1 g2 g3 g4 ho cI cJ H1 → va_S (fun q : Nat => s.heap.size ≤ q) s.heap H1 locs1 → lv_has ls1 8 [(0, .ref sb), (1, .ref h0), (2, .ref g0), (3, .ref ho), (4, .int (nI i))] → W p l e room_1 s m #[Value.ref sb] below meth c H1 locs1 (cells + 1) (slots + 6) Q (F0 m 877 ls1 [])) : W p l e room_1 s m #[Value.ref sb] below meth c H locs cells slots Q (F0 m 780 ls []) := by
  obtain ⟨hx, hb, hr, hml, hown, hts0, hX, hbl, hlocks, hgv⟩ := C0
  have hts : ∀ w ∈ wsL_law, w.before #[Value.ref sb] s = true := fun w h => hts0 w (wsL_law_in w h)
  have hown : s.vm.findClass RL = some m.cls := hown
  have hA : ∀ q : Nat, s.heap.size ≤ q → (fun q : Nat => s.heap.size ≤ q) q := fun _ h => h
  have hbA : ¬ (fun q : Nat => s.heap.size ≤ q) sb := Nat.not_le.mpr hbl
  obtain ⟨d, r, lc, bg, w, rm, k, pn, fa, e1, am, dd, rt, b, pd, pt, tp, gb, dr, pa, pi, ga, e2, th, og, hI, hP, hD⟩ := hSt
  obtain ⟨hlc, hd, hk, hpn, hbg, hw, hrm, he, hed, hfa, ham, hpd, hpd2, hpt, hbs, hb9, hrt, hdd, hroll, hh1, hh2, hh3, htp, hsa, hk0, he2, he2d, hga, hgb, hgb2, hpi, hdr, hpa1, he20, he21, hk0m, he28, hgbz, halE, hmxE, hlsE⟩ := Inv_f hI
  have hgbp : 0 < gb ↔ 0 < lc := by omega
  refine lv_aload_n hx hb dL_law_780 rfl (lv_at hl 1 rfl) ?_
  have hPc := hP.sub (ws' := wX h0 h1 h2 h3 h4 h5 h6 h7 h8 h9 cI cJ d r lc bg w rm k pn fa e1 am dd rt b pd pt tp) [0, 1, 2, 3, 4, 5, 6, 7, 8, 9] rfl
  refine nk_rd (W.runV (As := []) (rest := []) ⟨hx, hb, hml, hown, hts⟩ (c_X0_owed l D h0 h1 h2 h3 h4 h5 h6 h7 h8 h9 cI cJ d r lc bg w rm k pn fa e1 am dd rt b pd pt tp hk (by omega) hw) (cwV 0 hts gL_law_X0_owed rfl rfl rfl (by decide +kernel) ⟨Nat.le_of_ble_eq_true rfl, Nat.le_of_ble_eq_true rfl⟩) ⟨nk_Pr.blind, va_recv hK hPc (ci := 0) (q0 := 0) rfl rfl, fun U hU hW => ⟨rfl, by rw [hU]; exact hPc, va_K.moved hW.alike hK⟩⟩ rfl rfl hl.1 rfl (lv_room (Nat.le_of_ble_eq_true rfl)) dL_law_781 ⟨by show cells + 0 ≤ 1051; omega, by show slots + 0 ≤ 9300; omega⟩) ?_
  refine W.eq (g2 := F0 m 784 ls [.long (lN (min (ceilA (sm b k)) w))]) rfl ?_
  refine lv_aload_n hx hb dL_law_784 rfl (lv_at hl 2 rfl) ?_
  have hPm := hP.sub (ws' := wM g0 g1 g2 g3 g4 cI cJ d r gb w rm lc k dr pn pa pi th ga e2 b rt) [10, 11, 12, 13, 14] rfl
  have hDm := hD.sub (ws' := wM g0 g1 g2 g3 g4 cI cJ d r gb w rm lc k dr pn pa pi th ga e2 b rt) [10, 11, 12, 13, 14] (by decide) rfl
  refine nk_lcall (wr := wX h0 h1 h2 h3 h4 h5 h6 h7 h8 h9 cI cJ d r lc bg w rm k pn fa e1 am dd rt b pd pt tp ++ [(ho, .inl (cJ, 1, .inr (.inl (og))))]) (va_runV (As := []) (rest := [.long (lN (min (ceilA (sm b k)) w))]) ⟨hx, hb, hml, hown, hts⟩ (c_X1_owed l D g0 g1 g2 g3 g4 cI cJ d r gb w rm lc k dr pn pa pi th ga e2 b rt H.size hk (by omega) hw) (cwV 0 hts gL_law_X1_owed rfl rfl rfl (by decide +kernel) ⟨Nat.le_of_ble_eq_true rfl, Nat.le_of_ble_eq_true rfl⟩) ⟨nk_Pw.blind, va_recv hK hPm (ci := 1) (q0 := 0) rfl rfl, fun U hU hW => ⟨rfl, by rw [hU], by rw [hU]; exact hPm, va_K.moved hW.alike hK, hDm.weaken (fun _ _ _ _ => trivial)⟩⟩ rfl rfl hl.1 rfl (lv_room (Nat.le_of_ble_eq_true rfl)) dL_law_785 ⟨by show cells + 0 ≤ 1051; omega, by show slots + 0 ≤ 9300; omega⟩) hP hD hS hA [10, 11, 12, 13, 14] [0, 1, 2, 3, 4, 5, 6, 7, 8, 9, 15] rfl rfl rfl (by decide) (fun r9 w1 H locs hw9 hP hD hS hk9 => ?_)
  obtain ⟨rfl, rfl⟩ := hw9
  have hP := hP.sub (ws' := wX h0 h1 h2 h3 h4 h5 h6 h7 h8 h9 cI cJ d r lc bg w rm k pn fa e1 am dd rt b pd pt tp ++ (wM g0 g1 g2 g3 g4 cI cJ d r gb w rm lc k dr pn pa pi 0 ga e2 b rt ++ [(ho, .inl (cJ, 1, .inr (.inl (og))))])) [0, 1, 2, 3, 4, 5, 6, 7, 8, 9, 11, 12, 13, 14, 15, 10] rfl
  have hD := hD.sub (ws' := wX h0 h1 h2 h3 h4 h5 h6 h7 h8 h9 cI cJ d r lc bg w rm k pn fa e1 am dd rt b pd pt tp ++ (wM g0 g1 g2 g3 g4 cI cJ d r gb w rm lc k dr pn pa pi 0 ga e2 b rt ++ [(ho, .inl (cJ, 1, .inr (.inl (og))))])) [0, 1, 2, 3, 4, 5, 6, 7, 8, 9, 11, 12, 13, 14, 15, 10] (by decide) rfl
  refine nk_lsame (tgt := 877) hx hb rfl dL_law_788 dL_law_789 (by decide) ?_
  refine W.widen (k := cells + 1) (n := slots + 6) (by omega) (by omega) ?_
  exact kk _ _ _ ⟨_, _, _, _, _, _, _, _, _, _, _, _, _, _, _, _, _, _, _, _, _, _, _, _, _, hI, hP, hD⟩ hS (lv_sub hl [0, 1, 2, 3, 4] rfl)
set_option maxHeartbeats 8000000 in
set_option maxRecDepth 100000 in
theorem lc_spared {p : Program} {l : Launch} {e : Env} {s : State} {m : MethodId} {below : List Frame} {meth : Method} {c : Code} {sb L : Nat} {xs : Nat → Int32} {D : va_G} {h0 h1 h2 h3 h4 h5 h6 h7 h8 h9 g0 g1 g2 g3 g4 ho : Nat} {cI cJ : ClassId} {H : Heap} {locs : List Loc} {cells slots : Nat} {Q : State → Prop} {ls : Array Slot} {i : Nat}
    (C0 : lw_At p s m meth c sb L xs) (hfl : l.stackTraces = false) (hK : va_K D vwCl (tX cI cJ) s) (hZ : nk_Z (fun q : Nat => s.heap.size ≤ q) s s.heap) (hc9 : cells + 1 ≤ 1051) (hs9 : slots + 6 ≤ 9300) (hi5 : i + 5 ≤ L) (hL : L ≤ 2560) (hSt : nk_St D (fun q : Nat => s.heap.size ≤ q) h0 h1 h2 h3 h4 h5 h6 h7 h8 h9 g0 g1 g2 g3 g4 ho cI cJ H) (hS : va_S (fun q : Nat => s.heap.size ≤ q) s.heap H locs) (hl : lv_has ls 8 [(0, .ref sb), (1, .ref h0), (2, .ref g0), (3, .ref ho), (4, .int (nI i))])
    (kk : ∀ (H1 : Heap) (locs1 : List Loc) (ls1 : Array Slot), nk_St D (fun q : Nat => s.heap.size ≤ q) h0 h1 h2 h3 h4 h5 h6 h7 h8 h9 g0 g1 g2 g3 g4 ho cI cJ H1 → va_S (fun q : Nat => s.heap.size ≤ q) s.heap H1 locs1 → lv_has ls1 8 [(0, .ref sb), (1, .ref h0), (2, .ref g0), (3, .ref ho), (4, .int (nI i))] → W p l e room_1 s m #[Value.ref sb] below meth c H1 locs1 (cells + 1) (slots + 6) Q (F0 m 877 ls1 [])) : W p l e room_1 s m #[Value.ref sb] below meth c H locs cells slots Q (F0 m 794 ls []) := by
  obtain ⟨hx, hb, hr, hml, hown, hts0, hX, hbl, hlocks, hgv⟩ := C0
  have hts : ∀ w ∈ wsL_law, w.before #[Value.ref sb] s = true := fun w h => hts0 w (wsL_law_in w h)
  have hown : s.vm.findClass RL = some m.cls := hown
  have hA : ∀ q : Nat, s.heap.size ≤ q → (fun q : Nat => s.heap.size ≤ q) q := fun _ h => h
  have hbA : ¬ (fun q : Nat => s.heap.size ≤ q) sb := Nat.not_le.mpr hbl
  obtain ⟨d, r, lc, bg, w, rm, k, pn, fa, e1, am, dd, rt, b, pd, pt, tp, gb, dr, pa, pi, ga, e2, th, og, hI, hP, hD⟩ := hSt
  obtain ⟨hlc, hd, hk, hpn, hbg, hw, hrm, he, hed, hfa, ham, hpd, hpd2, hpt, hbs, hb9, hrt, hdd, hroll, hh1, hh2, hh3, htp, hsa, hk0, he2, he2d, hga, hgb, hgb2, hpi, hdr, hpa1, he20, he21, hk0m, he28, hgbz, halE, hmxE, hlsE⟩ := Inv_f hI
  have hgbp : 0 < gb ↔ 0 < lc := by omega
  refine lv_aload_n hx hb dL_law_794 rfl (lv_at hl 1 rfl) ?_
  have hPc := hP.sub (ws' := wX h0 h1 h2 h3 h4 h5 h6 h7 h8 h9 cI cJ d r lc bg w rm k pn fa e1 am dd rt b pd pt tp) [0, 1, 2, 3, 4, 5, 6, 7, 8, 9] rfl
  refine nk_rd (W.runV (As := []) (rest := []) ⟨hx, hb, hml, hown, hts⟩ (c_X0_spared l D h0 h1 h2 h3 h4 h5 h6 h7 h8 h9 cI cJ d r lc bg w rm k pn fa e1 am dd rt b pd pt tp hk (by omega) hw) (cwV 0 hts gL_law_X0_spared rfl rfl rfl (by decide +kernel) ⟨Nat.le_of_ble_eq_true rfl, Nat.le_of_ble_eq_true rfl⟩) ⟨nk_Pr.blind, va_recv hK hPc (ci := 0) (q0 := 0) rfl rfl, fun U hU hW => ⟨rfl, by rw [hU]; exact hPc, va_K.moved hW.alike hK⟩⟩ rfl rfl hl.1 rfl (lv_room (Nat.le_of_ble_eq_true rfl)) dL_law_795 ⟨by show cells + 0 ≤ 1051; omega, by show slots + 0 ≤ 9300; omega⟩) ?_
  refine W.eq (g2 := F0 m 798 ls [.long (lN (ceilA (sm b k) - min (ceilA (sm b k)) w))]) rfl ?_
  refine lv_aload_n hx hb dL_law_798 rfl (lv_at hl 2 rfl) ?_
  have hPm := hP.sub (ws' := wM g0 g1 g2 g3 g4 cI cJ d r gb w rm lc k dr pn pa pi th ga e2 b rt) [10, 11, 12, 13, 14] rfl
  have hDm := hD.sub (ws' := wM g0 g1 g2 g3 g4 cI cJ d r gb w rm lc k dr pn pa pi th ga e2 b rt) [10, 11, 12, 13, 14] (by decide) rfl
  refine nk_lcall (wr := wX h0 h1 h2 h3 h4 h5 h6 h7 h8 h9 cI cJ d r lc bg w rm k pn fa e1 am dd rt b pd pt tp ++ [(ho, .inl (cJ, 1, .inr (.inl (og))))]) (va_runV (As := []) (rest := [.long (lN (ceilA (sm b k) - min (ceilA (sm b k)) w))]) ⟨hx, hb, hml, hown, hts⟩ (c_X1_spared l D g0 g1 g2 g3 g4 cI cJ d r gb w rm lc k dr pn pa pi th ga e2 b rt H.size hk (by omega) hw) (cwV 0 hts gL_law_X1_spared rfl rfl rfl (by decide +kernel) ⟨Nat.le_of_ble_eq_true rfl, Nat.le_of_ble_eq_true rfl⟩) ⟨nk_Pw.blind, va_recv hK hPm (ci := 1) (q0 := 0) rfl rfl, fun U hU hW => ⟨rfl, by rw [hU], by rw [hU]; exact hPm, va_K.moved hW.alike hK, hDm.weaken (fun _ _ _ _ => trivial)⟩⟩ rfl rfl hl.1 rfl (lv_room (Nat.le_of_ble_eq_true rfl)) dL_law_799 ⟨by show cells + 0 ≤ 1051; omega, by show slots + 0 ≤ 9300; omega⟩) hP hD hS hA [10, 11, 12, 13, 14] [0, 1, 2, 3, 4, 5, 6, 7, 8, 9, 15] rfl rfl rfl (by decide) (fun r9 w1 H locs hw9 hP hD hS hk9 => ?_)
  obtain ⟨rfl, rfl⟩ := hw9
  have hP := hP.sub (ws' := wX h0 h1 h2 h3 h4 h5 h6 h7 h8 h9 cI cJ d r lc bg w rm k pn fa e1 am dd rt b pd pt tp ++ (wM g0 g1 g2 g3 g4 cI cJ d r gb w rm lc k dr pn pa pi 0 ga e2 b rt ++ [(ho, .inl (cJ, 1, .inr (.inl (og))))])) [0, 1, 2, 3, 4, 5, 6, 7, 8, 9, 11, 12, 13, 14, 15, 10] rfl
  have hD := hD.sub (ws' := wX h0 h1 h2 h3 h4 h5 h6 h7 h8 h9 cI cJ d r lc bg w rm k pn fa e1 am dd rt b pd pt tp ++ (wM g0 g1 g2 g3 g4 cI cJ d r gb w rm lc k dr pn pa pi 0 ga e2 b rt ++ [(ho, .inl (cJ, 1, .inr (.inl (og))))])) [0, 1, 2, 3, 4, 5, 6, 7, 8, 9, 11, 12, 13, 14, 15, 10] (by decide) rfl
  refine nk_lsame (tgt := 877) hx hb rfl dL_law_802 dL_law_803 (by decide) ?_
  refine W.widen (k := cells + 1) (n := slots + 6) (by omega) (by omega) ?_
  exact kk _ _ _ ⟨_, _, _, _, _, _, _, _, _, _, _, _, _, _, _, _, _, _, _, _, _, _, _, _, _, hI, hP, hD⟩ hS (lv_sub hl [0, 1, 2, 3, 4] rfl)
set_option maxHeartbeats 8000000 in
set_option maxRecDepth 100000 in
theorem lc_allowance {p : Program} {l : Launch} {e : Env} {s : State} {m : MethodId} {below : List Frame} {meth : Method} {c : Code} {sb L : Nat} {xs : Nat → Int32} {D : va_G} {h0 h1 h2 h3 h4 h5 h6 h7 h8 h9 g0 g1 g2 g3 g4 ho : Nat} {cI cJ : ClassId} {H : Heap} {locs : List Loc} {cells slots : Nat} {Q : State → Prop} {ls : Array Slot} {i : Nat}
    (C0 : lw_At p s m meth c sb L xs) (hfl : l.stackTraces = false) (hK : va_K D vwCl (tX cI cJ) s) (hZ : nk_Z (fun q : Nat => s.heap.size ≤ q) s s.heap) (hc9 : cells + 1 ≤ 1051) (hs9 : slots + 6 ≤ 9300) (hi5 : i + 5 ≤ L) (hL : L ≤ 2560) (hSt : nk_St D (fun q : Nat => s.heap.size ≤ q) h0 h1 h2 h3 h4 h5 h6 h7 h8 h9 g0 g1 g2 g3 g4 ho cI cJ H) (hS : va_S (fun q : Nat => s.heap.size ≤ q) s.heap H locs) (hl : lv_has ls 8 [(0, .ref sb), (1, .ref h0), (2, .ref g0), (3, .ref ho), (4, .int (nI i))])
    (kk : ∀ (H1 : Heap) (locs1 : List Loc) (ls1 : Array Slot), nk_St D (fun q : Nat => s.heap.size ≤ q) h0 h1 h2 h3 h4 h5 h6 h7 h8 h9 g0 g1 g2 g3 g4 ho cI cJ H1 → va_S (fun q : Nat => s.heap.size ≤ q) s.heap H1 locs1 → lv_has ls1 8 [(0, .ref sb), (1, .ref h0), (2, .ref g0), (3, .ref ho), (4, .int (nI i))] → W p l e room_1 s m #[Value.ref sb] below meth c H1 locs1 (cells + 1) (slots + 6) Q (F0 m 877 ls1 [])) : W p l e room_1 s m #[Value.ref sb] below meth c H locs cells slots Q (F0 m 808 ls []) := by
  obtain ⟨hx, hb, hr, hml, hown, hts0, hX, hbl, hlocks, hgv⟩ := C0
  have hts : ∀ w ∈ wsL_law, w.before #[Value.ref sb] s = true := fun w h => hts0 w (wsL_law_in w h)
  have hown : s.vm.findClass RL = some m.cls := hown
  have hA : ∀ q : Nat, s.heap.size ≤ q → (fun q : Nat => s.heap.size ≤ q) q := fun _ h => h
  have hbA : ¬ (fun q : Nat => s.heap.size ≤ q) sb := Nat.not_le.mpr hbl
  obtain ⟨d, r, lc, bg, w, rm, k, pn, fa, e1, am, dd, rt, b, pd, pt, tp, gb, dr, pa, pi, ga, e2, th, og, hI, hP, hD⟩ := hSt
  obtain ⟨hlc, hd, hk, hpn, hbg, hw, hrm, he, hed, hfa, ham, hpd, hpd2, hpt, hbs, hb9, hrt, hdd, hroll, hh1, hh2, hh3, htp, hsa, hk0, he2, he2d, hga, hgb, hgb2, hpi, hdr, hpa1, he20, he21, hk0m, he28, hgbz, halE, hmxE, hlsE⟩ := Inv_f hI
  have hgbp : 0 < gb ↔ 0 < lc := by omega
  refine lv_aload_n hx hb dL_law_808 rfl (lv_at hl 1 rfl) ?_
  have hPc := hP.sub (ws' := wX h0 h1 h2 h3 h4 h5 h6 h7 h8 h9 cI cJ d r lc bg w rm k pn fa e1 am dd rt b pd pt tp) [0, 1, 2, 3, 4, 5, 6, 7, 8, 9] rfl
  refine nk_rd (W.runV (As := []) (rest := []) ⟨hx, hb, hml, hown, hts⟩ (c_X0_allowance l D h0 h1 h2 h3 h4 h5 h6 h7 h8 h9 cI cJ d r lc bg w rm k pn fa e1 am dd rt b pd pt tp hk ham hpn hbg hd hpd hpt) (cwV 0 hts gL_law_X0_allowance rfl rfl rfl (by decide +kernel) ⟨Nat.le_of_ble_eq_true rfl, Nat.le_of_ble_eq_true rfl⟩) ⟨nk_Pr.blind, va_recv hK hPc (ci := 0) (q0 := 0) rfl rfl, fun U hU hW => ⟨rfl, by rw [hU]; exact hPc, va_K.moved hW.alike hK⟩⟩ rfl rfl hl.1 rfl (lv_room (Nat.le_of_ble_eq_true rfl)) dL_law_809 ⟨by show cells + 0 ≤ 1051; omega, by show slots + 0 ≤ 9300; omega⟩) ?_
  refine W.eq (g2 := F0 m 812 ls [.int (nI (sm am k / 10 - pY bg pd pt ((d - bg) / 365) pn))]) rfl ?_
  refine lv_aload_n hx hb dL_law_812 rfl (lv_at hl 2 rfl) ?_
  have hPm := hP.sub (ws' := wM g0 g1 g2 g3 g4 cI cJ d r gb w rm lc k dr pn pa pi th ga e2 b rt) [10, 11, 12, 13, 14] rfl
  have hDm := hD.sub (ws' := wM g0 g1 g2 g3 g4 cI cJ d r gb w rm lc k dr pn pa pi th ga e2 b rt) [10, 11, 12, 13, 14] (by decide) rfl
  refine nk_icall (wr := wX h0 h1 h2 h3 h4 h5 h6 h7 h8 h9 cI cJ d r lc bg w rm k pn fa e1 am dd rt b pd pt tp ++ [(ho, .inl (cJ, 1, .inr (.inl (og))))]) (va_runV (As := []) (rest := [.int (nI (sm am k / 10 - pY bg pd pt ((d - bg) / 365) pn))]) ⟨hx, hb, hml, hown, hts⟩ (c_X1_allowance l D g0 g1 g2 g3 g4 cI cJ d r gb w rm lc k dr pn pa pi th ga e2 b rt H.size hgb hd hpi hdr hpa1) (cwV 0 hts gL_law_X1_allowance rfl rfl rfl (by decide +kernel) ⟨Nat.le_of_ble_eq_true rfl, Nat.le_of_ble_eq_true rfl⟩) ⟨nk_Pw.blind, va_recv hK hPm (ci := 1) (q0 := 0) rfl rfl, fun U hU hW => ⟨rfl, by rw [hU], by rw [hU]; exact hPm, va_K.moved hW.alike hK, hDm.weaken (fun _ _ _ _ => trivial)⟩⟩ rfl rfl hl.1 rfl (lv_room (Nat.le_of_ble_eq_true rfl)) dL_law_813 ⟨by show cells + 0 ≤ 1051; omega, by show slots + 0 ≤ 9300; omega⟩) hP hD hS hA [10, 11, 12, 13, 14] [0, 1, 2, 3, 4, 5, 6, 7, 8, 9, 15] rfl rfl rfl (by decide) (fun r9 w1 H locs hw9 hP hD hS hk9 => ?_)
  obtain ⟨rfl, rfl⟩ := hw9
  have hP := hP.sub (ws' := wX h0 h1 h2 h3 h4 h5 h6 h7 h8 h9 cI cJ d r lc bg w rm k pn fa e1 am dd rt b pd pt tp ++ (wM g0 g1 g2 g3 g4 cI cJ d r gb w rm lc k dr pn pa pi 0 ga e2 b rt ++ [(ho, .inl (cJ, 1, .inr (.inl (og))))])) [0, 1, 2, 3, 4, 5, 6, 7, 8, 9, 11, 12, 13, 14, 15, 10] rfl
  have hD := hD.sub (ws' := wX h0 h1 h2 h3 h4 h5 h6 h7 h8 h9 cI cJ d r lc bg w rm k pn fa e1 am dd rt b pd pt tp ++ (wM g0 g1 g2 g3 g4 cI cJ d r gb w rm lc k dr pn pa pi 0 ga e2 b rt ++ [(ho, .inl (cJ, 1, .inr (.inl (og))))])) [0, 1, 2, 3, 4, 5, 6, 7, 8, 9, 11, 12, 13, 14, 15, 10] (by decide) rfl
  refine nk_isame (tgt := 877) hx hb (congrArg nI (Inv_allow hI).symm) dL_law_816 (by decide) ?_
  refine W.widen (k := cells + 1) (n := slots + 6) (by omega) (by omega) ?_
  exact kk _ _ _ ⟨_, _, _, _, _, _, _, _, _, _, _, _, _, _, _, _, _, _, _, _, _, _, _, _, _, hI, hP, hD⟩ hS (lv_sub hl [0, 1, 2, 3, 4] rfl)
