/-! rows that this law wants beside: a draw of the script, -3, what is read at the price of a throw -/
def lwV (x : Int32) (n : Nat) : Nat := (x.toBitVec.toNat % 2 ^ 31) % n
theorem lwV_lt {x : Int32} {n : Nat} (h : 0 < n) : lwV x n < n := Nat.mod_lt _ h
def cellV (L : Nat) (xs : Nat → Int32) (k : Nat) : Int32 := if k < L then xs k else nI (40503 * k + 977)
theorem nk_n3 {a : Nat} (h : a < 2147483648) : ¬ nI a = -3 := fun q => by
  have h2 := congrArg Int32.toInt q
  rw [nI_toInt (by omega), show (-3 : Int32).toInt = -3 from by decide +kernel] at h2
  omega
theorem nk_n3l {a : Nat} (h : a < 9223372036854775808) : ¬ lN a = -3 := fun q => by
  have h2 := congrArg Int64.toInt q
  rw [pk_lT (by omega), show (-3 : Int64).toInt = -3 from by decide +kernel] at h2
  omega
theorem nk_and31 (x : Int32) : x &&& nI 2147483647 = nI (x.toBitVec.toNat % 2 ^ 31) := pk_and x 31 (by decide +kernel)
def nk_Psc (b L : Nat) (xs : Nat → Int32) (av : List Value) : Array Value → State → Prop := va_Pc av (fun U => va_X b L xs U U.heap ∧ b < U.heap.size)
theorem nk_Psc.blind {b L : Nat} {xs : Nat → Int32} {av : List Value} : FrameBlind (nk_Psc b L xs av) := fun a U g mk q => ⟨q.1, va_X.moved (u := U) (U := U.calling g mk a) (Vm.Alike.refl U.vm) q.2.1, q.2.2⟩
section NKL
variable {p : Program} {l : Launch} {e : Env} {R : Room} {s : State} {m : MethodId} {args : Array Value} {below : List Frame} {meth : Method} {c : Code} {H : Heap} {locs : List Loc} {cells slots : Nat} {Q : State → Prop}
variable {cc : ByteArray} {pc : Nat} {ls : Array Slot} {rest st0 : List Value} {a : Array Value} {off : Int} {tgt : Nat}
theorem nk_rdt {mc ms : Nat} {v : Option Value} (hr : CallRun p l e R s m args below meth c H locs cells slots mc ms (F0 m pc ls st0) rest (nk_Rd v a) (fun _ => False))
    (kk : W p l e R s m args below meth c H locs cells slots Q (F0 m (pc + 3) ls (v.toList ++ rest))) : W p l e R s m args below meth c H locs cells slots Q (F0 m pc ls st0) := by
  intro T hT X
  obtain ⟨v', st₀, t, T', L, h0, X', hL, e1, ⟨hv, hh⟩, st⟩ := hr T hT X
  cases hv
  have e9 : T'.heap = T.heap := by rw [e1, hh, h0, hT]
  have X2 := nk_tight X (Stand.forget (extra := L) X' (fun q h => (hL q h).elim)) e9
  obtain ⟨t2, a1, b1⟩ := kk T' (by rw [e9, hT]) X2
  exact ⟨t2, st t2 a1, b1⟩
theorem nk_irem (hx : p.tables.exec = Jvm.exec) (hb : c.code = cc) {a b : Nat} (ha : a < 2147483648) (h0 : 0 < b) (hb2 : b < 2147483648) (hdg : decode cc pc = .ok (.irem, 1)) (k : W p l e R s m args below meth c H locs cells slots Q (F0 m (pc + 1) ls (.int (nI (a % b)) :: rest))) : W p l e R s m args below meth c H locs cells slots Q (F0 m pc ls (.int (nI b) :: .int (nI a) :: rest)) := lv_irem hx hb hdg (nI_ne0 h0 (by omega)) (by rw [pk_rem (by omega) h0 (by omega)]; exact k)
theorem nk_if_ltN (hx : p.tables.exec = Jvm.exec) (hb : c.code = cc) {a : Nat} (ha : a < 2147483648) (hdg : decode cc pc = .ok (.ifCond .lt off, 3)) (ht : (pc : Int) + off = (tgt : Int)) (k : W p l e R s m args below meth c H locs cells slots Q (F0 m (pc + 3) ls rest)) : W p l e R s m args below meth c H locs cells slots Q (F0 m pc ls (.int (nI a) :: rest)) := lv_if_lt hx hb hdg ht (fun q => absurd q (by rw [Int32.lt_iff_toInt_lt, nI_toInt (by omega)]; show ¬ _ < (0 : Int); omega)) (fun _ => k)
theorem nk_lcmp_lt (hx : p.tables.exec = Jvm.exec) (hb : c.code = cc) {a b : Nat} (ha : a < 9223372036854775808) (hb2 : b < 9223372036854775808) (d1 : decode cc pc = .ok (.lcmp, 1)) (d2 : decode cc (pc + 1) = .ok (.ifCond .lt off, 3)) (ht : ((pc + 1 : Nat) : Int) + off = (tgt : Int)) (kt : a < b → W p l e R s m args below meth c H locs cells slots Q (F0 m tgt ls rest)) (kf : b ≤ a → W p l e R s m args below meth c H locs cells slots Q (F0 m (pc + 1 + 3) ls rest)) : W p l e R s m args below meth c H locs cells slots Q (F0 m pc ls (.long (lN b) :: .long (lN a) :: rest)) := W.lcmp hx hb d1 (lv_if_lt hx hb d2 ht (fun q => kt (by
      obtain ⟨h1, h2⟩ := nk_cmp1.2.2.1.mp q
      rcases Nat.lt_or_ge a b with h | h
      · exact h
      · rcases Nat.lt_or_eq_of_le h with h | h
        · exact absurd ((pk_lLT (by omega) (by omega)).mpr h) h1
        · exact absurd (by rw [h]) h2)) (fun q => kf (Nat.not_lt.mp (fun r => q (nk_cmp1.2.2.1.mpr ⟨fun r2 => absurd ((pk_lLT (by omega) (by omega)).mp r2) (by omega), fun r2 => absurd ((pk_lEQ (by omega) (by omega)).mp r2) (by omega)⟩)))))
theorem nk_lcmpR_ne (hx : p.tables.exec = Jvm.exec) (hb : c.code = cc) {x y : Int64} (d1 : decode cc pc = .ok (.lcmp, 1)) (d2 : decode cc (pc + 1) = .ok (.ifCond .ne off, 3)) (ht : ((pc + 1 : Nat) : Int) + off = (tgt : Int)) (kt : ¬ x = y → W p l e R s m args below meth c H locs cells slots Q (F0 m tgt ls rest)) (kf : x = y → W p l e R s m args below meth c H locs cells slots Q (F0 m (pc + 1 + 3) ls rest)) : W p l e R s m args below meth c H locs cells slots Q (F0 m pc ls (.long y :: .long x :: rest)) := W.lcmp hx hb d1 (lv_if_ne hx hb d2 ht (fun q => kt (fun r => q (nk_cmp1.2.2.2.2.mpr ⟨by rw [r]; exact Int64.lt_irrefl, r⟩))) (fun q => kf (nk_cmp1.2.2.2.2.mp q).2))
theorem nk_ZL_le (hx : p.tables.exec = Jvm.exec) (hb : c.code = cc) {x y : Int64} {z w : Int} (hz : x.toInt = z) (hw : y.toInt = w) (d1 : decode cc pc = .ok (.lcmp, 1)) (d2 : decode cc (pc + 1) = .ok (.ifCond .le off, 3)) (ht : ((pc + 1 : Nat) : Int) + off = (tgt : Int)) (kt : z ≤ w → W p l e R s m args below meth c H locs cells slots Q (F0 m tgt ls rest)) (kf : w < z → W p l e R s m args below meth c H locs cells slots Q (F0 m (pc + 1 + 3) ls rest)) : W p l e R s m args below meth c H locs cells slots Q (F0 m pc ls (.long y :: .long x :: rest)) := W.lcmp hx hb d1 (lv_if_le hx hb d2 ht (fun q => kt (by
      have h1 := nk_cmp1.2.1.mp q
      rw [Int64.lt_iff_toInt_lt, hz, hw] at h1; omega)) (fun q => kf (Int.not_le.mp (fun r => q (nk_cmp1.2.1.mpr (by rw [Int64.lt_iff_toInt_lt, hz, hw]; omega))))))
theorem nk_sub2L {a b d : Nat} (ha : a < 1152921504606846976) (hb : b < 1152921504606846976) (hd : d < 1152921504606846976) : (lN a - lN b - lN d).toInt = (a : Int) - b - d := by
  have e : (lN a - lN b - lN d).toInt = ((lN a - lN b).toInt - (lN d).toInt).bmod (2 ^ 64) := Int64.toInt_sub _ _
  rw [e, nk_subL (by omega) (by omega), pk_lT (by omega), Int.bmod_def]
  omega
theorem nk_ecmp_lt (hx : p.tables.exec = Jvm.exec) (hb : c.code = cc) {a b : Nat} (ha : a < 2147483648) (hb2 : b < 1073741824) (hdg : decode cc pc = .ok (.if_icmp .lt off, 3)) (ht : (pc : Int) + off = (tgt : Int)) (kt : a < b + 1 → W p l e R s m args below meth c H locs cells slots Q (F0 m tgt ls rest)) (kf : b + 1 ≤ a → W p l e R s m args below meth c H locs cells slots Q (F0 m (pc + 3) ls rest)) : W p l e R s m args below meth c H locs cells slots Q (F0 m pc ls (.int (nI b) :: .int (nI a - 1) :: rest)) := lv_icmp_lt hx hb hdg ht (fun q => kt (by rw [Int32.lt_iff_toInt_lt, nk_eI ha, nI_toInt (by omega)] at q; omega)) (fun q => kf (Nat.not_lt.mp (fun r => q (by rw [Int32.lt_iff_toInt_lt, nk_eI ha, nI_toInt (by omega)]; omega))))
end NKL
