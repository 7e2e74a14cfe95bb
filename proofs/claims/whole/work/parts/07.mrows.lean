/-! rows and numbers for the reference's side -/
section NKZ
variable {p : Program} {l : Launch} {e : Env} {R : Room} {s : State} {m : MethodId} {args : Array Value} {below : List Frame} {meth : Method} {c : Code} {H : Heap} {locs : List Loc} {cells slots : Nat} {Q : State → Prop}
variable {cc : ByteArray} {pc : Nat} {ls : Array Slot} {rest : List Value} {off : Int} {tgt : Nat}
theorem nk_zle (hx : p.tables.exec = Jvm.exec) (hb : c.code = cc) {x : Int32} {z : Int} (hz : x.toInt = z) (hdg : decode cc pc = .ok (.ifCond .le off, 3)) (ht : (pc : Int) + off = (tgt : Int)) (kt : z ≤ 0 → W p l e R s m args below meth c H locs cells slots Q (F0 m tgt ls rest)) (kf : 0 < z → W p l e R s m args below meth c H locs cells slots Q (F0 m (pc + 3) ls rest)) : W p l e R s m args below meth c H locs cells slots Q (F0 m pc ls (.int x :: rest)) := lv_if_le hx hb hdg ht (fun q => kt (by rw [Int32.le_iff_toInt_le, hz] at q; exact q)) (fun q => kf (by rw [Int32.le_iff_toInt_le, hz] at q; exact Int.not_le.mp q))
theorem nk_zlcmp_le (hx : p.tables.exec = Jvm.exec) (hb : c.code = cc) {x : Int64} {z : Int} (hz : x.toInt = z) (d1 : decode cc pc = .ok (.lcmp, 1)) (d2 : decode cc (pc + 1) = .ok (.ifCond .le off, 3)) (ht : ((pc + 1 : Nat) : Int) + off = (tgt : Int)) (kt : z ≤ 0 → W p l e R s m args below meth c H locs cells slots Q (F0 m tgt ls rest)) (kf : 0 < z → W p l e R s m args below meth c H locs cells slots Q (F0 m (pc + 1 + 3) ls rest)) : W p l e R s m args below meth c H locs cells slots Q (F0 m pc ls (.long (lN 0) :: .long x :: rest)) := by
  have h0 : (lN 0).toInt = 0 := by decide +kernel
  refine W.lcmp hx hb d1 (lv_if_le hx hb d2 ht (fun q => kt ?_) (fun q => kf ?_))
  · have := nk_cmp1.2.1.mp q
    rw [Int64.lt_iff_toInt_lt, hz, h0] at this
    exact Int.not_lt.mp this
  · have := fun r => q (nk_cmp1.2.1.mpr r)
    rw [Int64.lt_iff_toInt_lt, hz, h0] at this
    exact Int.not_le.mp (fun r => this (Int.not_lt.mpr r))
end NKZ
theorem nk_yr {d g : Nat} (h : g ≤ d + 1) (hd : d ≤ 15000) : nI d - nI g + nI 1 = nI (d + 1 - g) := by
  apply Int32.toInt_inj.mp
  have e : (nI d - nI g + nI 1).toInt = ((nI d - nI g).toInt + (nI 1).toInt).bmod (2 ^ 32) := Int32.toInt_add _ _
  rw [e, nk_subI (by omega) (by omega), nI_toInt (by omega), nI_toInt (by omega), Int.bmod_def]
  omega
theorem nk_lneg0 {a b : Nat} (ha : a < 4611686018427387904) (hb : b < 4611686018427387904) (h : a ≤ b) : -(lN a - lN b) = lN (b - a) := by
  apply Int64.toInt_inj.mp
  have e : (-(lN a - lN b)).toInt = (-(lN a - lN b).toInt).bmod (2 ^ 64) := Int64.toInt_neg _
  rw [e, nk_subL ha hb, pk_lT (by omega), Int.bmod_def]
  omega
theorem agE_s (a f : Nat → Nat) (n y : Nat) : agE a f (n + 1) y = if f n = 0 ∧ (agE a f n y = 0 ∨ a n + y + 1 < agE a f n y) then a n + y + 1 else agE a f n y := by
  unfold agE
  rw [lstA_s]
  generalize lstA a f n = L
  by_cases h0 : L = 0
  · simp only [if_pos h0]
    by_cases h : f n = 0
    · rw [if_pos (show f n = 0 ∧ (L = 0 ∨ a n + 1 < L) from ⟨h, Or.inl h0⟩), if_neg (by omega), if_pos (show f n = 0 ∧ (True ∨ a n + y + 1 < 0) from ⟨h, Or.inl trivial⟩)]; omega
    · rw [if_neg (show ¬ (f n = 0 ∧ (L = 0 ∨ a n + 1 < L)) from fun q => h q.1), if_pos h0, if_neg (fun q => h q.1)]
  · simp only [if_neg h0]
    by_cases h : f n = 0 ∧ (L = 0 ∨ a n + 1 < L)
    · rw [if_pos h, if_neg (by omega), if_pos (by omega)]; omega
    · rw [if_neg h, if_neg h0, if_neg (by omega)]
theorem tkB_s1 {b : Nat → Nat} {a i : Nat} (h : tkR b a i ≤ b i) : va_up (tkB b a i) i (b i - tkR b a i) = tkB b a (i + 1) := by
  rw [← tkB_s, Nat.min_eq_left h]
theorem tkB_s2 {b : Nat → Nat} {a i : Nat} (h : b i < tkR b a i) : va_up (tkB b a i) i (b i - b i) = tkB b a (i + 1) := by
  rw [← tkB_s, Nat.min_eq_right (Nat.le_of_lt h)]
/-- i days of interest for all k drawings, one day more for the first j -/
def rl2 (rt b : Nat → Nat) (i k j : Nat) : Nat → Nat := fun q => if q < j then roll (rt q) (b q) (i + 1) else if q < k then roll (rt q) (b q) i else b q
theorem rl2_0 (rt b : Nat → Nat) (i k : Nat) : rl2 rt b i k 0 = rlB rt b i k := by funext q; simp [rl2, rlB]
theorem rl2_k (rt b : Nat → Nat) (i k : Nat) : rl2 rt b i k k = rlB rt b (i + 1) k := by
  funext q
  by_cases h : q < k
  · simp only [rl2, rlB, if_pos h]
  · simp only [rl2, rlB, if_neg h]
theorem rl2_self {rt b : Nat → Nat} {i k j : Nat} (h : j < k) : rl2 rt b i k j j = roll (rt j) (b j) i := by simp [rl2, h]
theorem rl2_s {rt b : Nat → Nat} {i k j : Nat} : va_up (rl2 rt b i k j) j (roll (rt j) (b j) i + roll (rt j) (b j) i * rt j / 3650000) = rl2 rt b i k (j + 1) := by
  funext q
  by_cases h : q = j
  · subst h; simp [va_up, rl2, roll_s]
  · by_cases h2 : q < j
    · simp only [va_up, rl2, if_neg h, if_pos h2, if_pos (show q < j + 1 by omega)]
    · simp only [va_up, rl2, if_neg h, if_neg h2, if_neg (show ¬ q < j + 1 by omega)]
theorem chg_1 {M d y dr pp a : Nat} (h : a ≤ dr / 10 - pp) : chg M d y dr pp a = 0 := by
  unfold chg; split
  · rfl
  · rw [show a - (dr / 10 - pp) = 0 by omega, Nat.zero_mul]
theorem chg_2 {M d y dr pp a : Nat} (h : 10 ≤ y) : chg M d y dr pp a = 0 := by
  unfold chg; split
  · rfl
  · rw [show 10 - y = 0 by omega, Nat.mul_zero]
theorem lst_1 {a e : Nat → Nat} (h0 : e 0 = 0) : lstA a e 1 = a 0 + 1 := by simp [lstA, h0]
theorem lst_2 {a e : Nat → Nat} (h0 : e 0 = 0) (h1 : e 1 = 0) : lstA a e 2 = min (a 0) (a 1) + 1 := by
  rw [lstA_s, lst_1 h0]
  by_cases h : a 1 < a 0
  · rw [if_pos ⟨h1, Or.inr (by omega)⟩]; omega
  · rw [if_neg (by omega)]; omega
theorem roll_0 (r x : Nat) : roll r x 0 = x := rfl
theorem rlB0_0 (rt b : Nat → Nat) (k : Nat) : rlB rt b 0 k = b := by
  funext j
  unfold rlB; split
  · rfl
  · rfl
