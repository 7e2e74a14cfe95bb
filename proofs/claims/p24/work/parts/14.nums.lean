/-! numbers that this law's comparisons want -/
theorem ceilA_add (x a : Nat) : ceilA (x + a * 10000) = ceilA x + a := by unfold ceilA; omega
theorem ceilA_mono {x y : Nat} (h : x ≤ y) : ceilA x ≤ ceilA y := by unfold ceilA; omega
theorem sm_up (b : Nat → Nat) (k v : Nat) : sm (va_up b k v) (k + 1) = sm b k + v := by
  rw [sm_s, up_s, sm_congr k (fun j hj => (up_n (show j ≠ k by omega) : va_up b k v j = b j))]
theorem tkR_sm (b : Nat → Nat) (A : Nat) : ∀ n, tkR b A n = A - sm b n
  | 0 => rfl
  | n + 1 => by rw [tkR_s, tkR_sm b A n, sm_s]; omega
theorem tk_debt {b : Nat → Nat} {k a : Nat} (h : a ≤ ceilA (sm b k)) : ceilA (sm (tkB b (a * 10000) k) k) = ceilA (sm b k) - a := by
  have h1 := tk_sum b (a * 10000) k
  have h2 : sm (tkB b (a * 10000) k) k = sm (fun j => b j - tkP b (a * 10000) j) k := sm_congr k (fun j hj => by unfold tkB; rw [if_pos hj])
  rw [tkR_sm] at h1
  rw [h2]
  generalize sm (fun j => b j - tkP b (a * 10000) j) k = T at h1
  generalize sm b k = S at h1 h
  unfold ceilA at h ⊢
  omega
theorem chg_le {M d y dr pp a : Nat} : chg M d y dr pp a ≤ a / 10 := by
  unfold chg
  split
  · exact Nat.zero_le _
  · have h1 : (a - (dr / 10 - pp)) * (10 - y) ≤ a * 10 := Nat.mul_le_mul (Nat.sub_le _ _) (Nat.sub_le _ _)
    generalize (a - (dr / 10 - pp)) * (10 - y) = q at h1
    omega
/-- the balances' own ceilings, added -/
def scA (b : Nat → Nat) (n : Nat) : Nat := sm (fun j => ceilA (b j)) n
theorem scA_s (b : Nat → Nat) (n : Nat) : scA b (n + 1) = scA b n + ceilA (b n) := rfl
theorem scA_ge (b : Nat → Nat) : ∀ n, ceilA (sm b n) ≤ scA b n
  | 0 => by show ceilA 0 ≤ 0; unfold ceilA; omega
  | n + 1 => by
    have h := scA_ge b n
    rw [scA_s, sm_s]
    unfold ceilA at *
    omega
theorem scA_le (b : Nat → Nat) : ∀ n, 10000 * scA b n ≤ sm b n + 9999 * n
  | 0 => Nat.le_refl _
  | n + 1 => by
    have h := scA_le b n
    rw [scA_s, sm_s]
    unfold ceilA
    omega
theorem scA_lt (b : Nat → Nat) (n : Nat) (h : 0 < n) : scA b n < ceilA (sm b n) + n := by
  have h1 := scA_le b n
  unfold ceilA
  omega
theorem scA_0 {b : Nat → Nat} {n : Nat} (h : n = 0) : scA b n = 0 ∧ sm b n = 0 := by subst h; exact ⟨rfl, rfl⟩
theorem lstA_0 {a f : Nat → Nat} : ∀ n, alive f n = 0 → lstA a f n = 0
  | 0, _ => rfl
  | n + 1, h => by
    rw [alive_s] at h
    have h1 := lstA_0 (a := a) (f := f) n (by omega)
    rw [lstA_s]
    by_cases z : f n = 0
    · rw [if_pos z] at h; omega
    · rw [if_neg (fun q => z q.1)]; exact h1
theorem agE_in {a f : Nat → Nat} {n y : Nat} (h : ∀ j, j < n → 55 ≤ a j ∧ a j ≤ 95) (hy : y ≤ 100) : agE a f n y = 0 ∨ (56 ≤ agE a f n y ∧ agE a f n y ≤ 200) := by
  by_cases z : 0 < lstA a f n
  · have h1 := lstA_ge (f := f) n h z
    have h2 := lstA_le (f := f) n h
    rw [agE_pos z]; omega
  · exact Or.inl (agE_0 (by omega))
theorem agE_end {a f : Nat → Nat} {n y : Nat} (h : alive f n = 0) : agE a f n y = 0 := agE_0 (lstA_0 n h)
theorem roll_ge (r x : Nat) : ∀ n, x ≤ roll r x n
  | 0 => Nat.le_refl _
  | n + 1 => by have := roll_ge r x n; rw [roll_s]; omega
theorem rl_debt (rt b : Nat → Nat) (n k : Nat) : ceilA (sm b k) ≤ ceilA (sm (rlB rt b n k) k) := ceilA_mono (sm_mono k (fun j hj => by
  show b j ≤ if j < k then roll (rt j) (b j) n else b j
  rw [if_pos hj]; exact roll_ge _ _ _))
/-- the law's own word of the lives: a bit for a life that has ended, or is none -/
def enOK (E lc : Nat) (e1 : Nat → Nat) : Prop := E < 4 ∧ (E % 2 = 0 ↔ e1 0 = 0) ∧ (E / 2 = 0 ↔ (1 < lc ∧ e1 1 = 0))
theorem en_bit {E t : Nat} (hE : E < 4) (ht : t < 2) : (nI E >>> (nI t &&& 31)) &&& nI 1 = nI (E / 2 ^ t % 2) := by
  have h1 : E = 0 ∨ E = 1 ∨ E = 2 ∨ E = 3 := by omega
  have h2 : t = 0 ∨ t = 1 := by omega
  rcases h1 with rfl | rfl | rfl | rfl <;> rcases h2 with rfl | rfl <;> decide +kernel
theorem en_set {E t : Nat} (hE : E < 4) (ht : t < 2) (h0 : E / 2 ^ t % 2 = 0) : nI E ||| (nI 1 <<< (nI t &&& 31)) = nI (E + 2 ^ t) := by
  have h1 : E = 0 ∨ E = 1 ∨ E = 2 ∨ E = 3 := by omega
  have h2 : t = 0 ∨ t = 1 := by omega
  rcases h1 with rfl | rfl | rfl | rfl <;> rcases h2 with rfl | rfl <;> first | (exfalso; revert h0; decide) | decide +kernel
theorem en_end {E lc t d : Nat} {e1 : Nat → Nat} (h : enOK E lc e1) (hlc : 0 < lc) (hlc2 : lc ≤ 2) (ht : t < 2) (h0 : E / 2 ^ t % 2 = 0) : t < lc ∧ e1 t = 0 ∧ enOK (E + 2 ^ t) lc (va_up e1 t (d + 1)) ∧ alive (va_up e1 t (d + 1)) lc = (if E + 2 ^ t = 3 then 0 else 1) := by
  obtain ⟨hE, ha, hb⟩ := h
  have u0 : va_up e1 0 (d + 1) 0 = d + 1 := up_s
  have u1 : va_up e1 1 (d + 1) 1 = d + 1 := up_s
  have u2 : va_up e1 0 (d + 1) 1 = e1 1 := up_n (by decide)
  have u3 : va_up e1 1 (d + 1) 0 = e1 0 := up_n (by decide)
  have h2 : t = 0 ∨ t = 1 := by omega
  rcases h2 with rfl | rfl
  · have h0' : E % 2 = 0 := by simpa using h0
    have he := ha.mp h0'
    refine ⟨hlc, he, ⟨by show E + 1 < 4; omega, ?_, ?_⟩, ?_⟩
    · rw [u0]; show (E + 1) % 2 = 0 ↔ _; omega
    · rw [u2, ← hb]; show (E + 1) / 2 = 0 ↔ _; omega
    · have h3 : lc = 1 ∨ lc = 2 := by omega
      show _ = if E + 1 = 3 then 0 else 1
      rcases h3 with rfl | rfl
      · have h4 : ¬ E / 2 = 0 := fun q => absurd (hb.mp q).1 (by decide)
        rw [alive_s, u0, if_neg (by omega), if_pos (by omega)]; rfl
      · rw [alive_s, alive_s, u0, u2, if_neg (show ¬ d + 1 = 0 by omega)]
        by_cases z : e1 1 = 0
        · have h4 := hb.mpr ⟨by decide, z⟩
          rw [if_pos z, if_neg (by omega)]; rfl
        · have h4 : ¬ E / 2 = 0 := fun q => z (hb.mp q).2
          rw [if_neg z, if_pos (by omega)]; rfl
  · have h0' : E / 2 % 2 = 0 := by simpa using h0
    have h5 : E / 2 = 0 := by omega
    have he := hb.mp h5
    have h3 : lc = 2 := by omega
    subst h3
    refine ⟨by decide, he.2, ⟨by show E + 2 < 4; omega, ?_, ?_⟩, ?_⟩
    · rw [u3, ← ha]; show (E + 2) % 2 = 0 ↔ _; omega
    · rw [u1]; show (E + 2) / 2 = 0 ↔ _; omega
    · show _ = if E + 2 = 3 then 0 else 1
      rw [alive_s, alive_s, u1, u3, if_neg (show ¬ d + 1 = 0 by omega)]
      by_cases z : e1 0 = 0
      · have h4 := ha.mpr z
        rw [if_pos z, if_neg (by omega)]; rfl
      · have h4 : ¬ E % 2 = 0 := fun q => z (ha.mp q)
        rw [if_neg z, if_pos (by omega)]; rfl
