/-! what holds between the calls, and that each call keeps it -/
def okB (x t : Nat) : Prop := x * 1825 ^ t ≤ 55000000000 * 1826 ^ t
theorem okB_0 {x t : Nat} (h : x ≤ 55000000000) : okB x t := Nat.mul_le_mul h (Nat.pow_le_pow_left (by decide) t)
theorem okB_step {x t r : Nat} (h : okB x t) (hr : r ≤ 2000) : okB (x + x * r / 3650000) (t + 1) := by
  unfold okB at *
  have h1 : x * r / 3650000 ≤ x / 1825 := by
    have h2 : x * r / 3650000 ≤ x * 2000 / 3650000 := Nat.div_le_div_right (Nat.mul_le_mul_left x hr)
    have h3 : x * 2000 / 3650000 = x / 1825 := by rw [show 3650000 = 1825 * 2000 from rfl, Nat.mul_div_mul_right _ _ (by decide)]
    rw [h3] at h2; exact h2
  generalize x * r / 3650000 = y at h1 ⊢
  have h2 : (x + y) * 1825 ≤ x * 1826 := by omega
  have e1 : (x + y) * 1825 ^ (t + 1) = ((x + y) * 1825) * 1825 ^ t := by rw [Nat.pow_succ, Nat.mul_comm (1825 ^ t), Nat.mul_assoc]
  have e2 : 55000000000 * 1826 ^ (t + 1) = 1826 * (55000000000 * 1826 ^ t) := by rw [Nat.pow_succ, ← Nat.mul_assoc, Nat.mul_comm]
  have e3 : (x * 1826) * 1825 ^ t = 1826 * (x * 1825 ^ t) := by rw [Nat.mul_comm x 1826, Nat.mul_assoc]
  rw [e1, e2]
  exact Nat.le_trans (Nat.mul_le_mul_right _ h2) (by rw [e3]; exact Nat.mul_le_mul_left _ h)
theorem okB_roll {x t r : Nat} (h : okB x t) (hr : r ≤ 2000) : ∀ n, okB (roll r x n) (t + n)
  | 0 => h
  | n + 1 => okB_step (okB_roll h hr n) hr
theorem okB_mono {x y t : Nat} (hxy : y ≤ x) (h : okB x t) : okB y t := Nat.le_trans (Nat.mul_le_mul_right _ hxy) h
theorem okB_up {x t : Nat} (h : okB x t) : ∀ n, okB x (t + n)
  | 0 => h
  | n + 1 => by
    have h1 := okB_up h n
    unfold okB at *
    rw [show t + (n + 1) = (t + n) + 1 from rfl, Nat.pow_succ, Nat.pow_succ, ← Nat.mul_assoc, ← Nat.mul_assoc]
    exact Nat.mul_le_mul h1 (by decide)
theorem okB_pow : 1826 ^ 15000 ≤ 4000 * 1825 ^ 15000 := by decide +kernel
theorem okB_lim {x t : Nat} (h : okB x t) (ht : t ≤ 15000) : x ≤ 220000000000000 := by
  have h1 := okB_up h (15000 - t)
  rw [show t + (15000 - t) = 15000 by omega] at h1
  have h2 := okB_pow
  have h3 : 0 < 1825 ^ 15000 := Nat.pow_pos (by decide)
  unfold okB at h1
  generalize 1826 ^ 15000 = A at h1 h2
  generalize 1825 ^ 15000 = B at h1 h2 h3
  have h4 : x * B ≤ 220000000000000 * B := by
    have h5 : 55000000000 * A ≤ 55000000000 * (4000 * B) := Nat.mul_le_mul_left _ h2
    omega
  exact Nat.le_of_mul_le_mul_right h4 h3
theorem roll_add (r x m : Nat) : ∀ n, roll r x (m + n) = roll r (roll r x m) n
  | 0 => rfl
  | n + 1 => by
    have h := roll_add r x m n
    show roll r x ((m + n) + 1) = _
    rw [roll_s, roll_s, h]
theorem hX_congr {am dd rt pd tp am' dd' rt' pd' tp' : Nat → Nat} {q : Nat} (h1 : am' q = am q) (h2 : dd' q = dd q) (h3 : rt' q = rt q) : ∀ n, (∀ j, j < n → pd' j = pd j) → (∀ j, j < n → tp' (q * 40 + j) = tp (q * 40 + j)) → hX am' dd' rt' pd' tp' q n = hX am dd rt pd tp q n
  | 0, _, _ => by show (am' q * 10000, dd' q) = (am q * 10000, dd q); rw [h1, h2]
  | n + 1, h4, h5 => by
    have ih := hX_congr (am := am) (dd := dd) (rt := rt) (pd := pd) (tp := tp) (am' := am') (dd' := dd') (rt' := rt') (pd' := pd') (tp' := tp') h1 h2 h3 n (fun j hj => h4 j (by omega)) (fun j hj => h5 j (by omega))
    rw [hX_s, hX_s, ih, h3, h4 n (by omega), h5 n (by omega)]
theorem hX_none {am dd rt pd tp : Nat → Nat} {q : Nat} : ∀ n, (∀ j, j < n → tp (q * 40 + j) = 0) → hX am dd rt pd tp q n = (am q * 10000, dd q)
  | 0, _ => rfl
  | n + 1, h => by
    rw [hX_s, if_neg (by rw [h n (by omega)]; omega)]
    exact hX_none n (fun j hj => h j (by omega))
theorem hX_ok {am dd rt pd tp : Nat → Nat} {q pn : Nat} (ha : am q ≤ 5500000) (hr : rt q ≤ 2000) (hd : dd q ≤ 15000) (hp : ∀ j, j < pn → pd j ≤ 15000) (hh : ∀ j, j < pn → 0 < tp (q * 40 + j) → (hX am dd rt pd tp q j).2 ≤ pd j) : ∀ j, j ≤ pn → okB (hX am dd rt pd tp q j).1 (hX am dd rt pd tp q j).2 ∧ (hX am dd rt pd tp q j).2 ≤ 15000
  | 0, _ => ⟨okB_0 (show am q * 10000 ≤ _ by omega), hd⟩
  | j + 1, hj => by
    have ih := hX_ok ha hr hd hp hh j (by omega)
    rw [hX_s]
    by_cases h : 0 < tp (q * 40 + j)
    · rw [if_pos h]
      have h1 := hh j (by omega) h
      refine ⟨okB_mono (Nat.sub_le _ _) ?_, hp j (by omega)⟩
      have h2 := okB_roll ih.1 hr (pd j - (hX am dd rt pd tp q j).2)
      rw [show (hX am dd rt pd tp q j).2 + (pd j - (hX am dd rt pd tp q j).2) = pd j by omega] at h2
      exact h2
    · rw [if_neg h]; exact ih
theorem alive_congr {f g : Nat → Nat} : ∀ n, (∀ j, j < n → f j = g j) → alive f n = alive g n
  | 0, _ => rfl
  | n + 1, h => by rw [alive_s, alive_s, alive_congr n (fun j hj => h j (by omega)), h n (by omega)]
theorem mxE_congr {f g : Nat → Nat} : ∀ n, (∀ j, j < n → f j = g j) → mxE f n = mxE g n
  | 0, _ => rfl
  | n + 1, h => by show max (mxE f n) (f n) = max (mxE g n) (g n); rw [mxE_congr n (fun j hj => h j (by omega)), h n (by omega)]
theorem lstA_congr {a a' f g : Nat → Nat} : ∀ n, (∀ j, j < n → f j = g j ∧ a j = a' j) → lstA a f n = lstA a' g n
  | 0, _ => rfl
  | n + 1, h => by rw [lstA_s, lstA_s, lstA_congr n (fun j hj => h j (by omega)), (h n (by omega)).1, (h n (by omega)).2]
theorem sm_congr {f g : Nat → Nat} : ∀ n, (∀ j, j < n → f j = g j) → sm f n = sm g n
  | 0, _ => rfl
  | n + 1, h => by rw [sm_s, sm_s, sm_congr n (fun j hj => h j (by omega)), h n (by omega)]
theorem pY_congr {bg y : Nat} {pd pt pd' pt' : Nat → Nat} : ∀ n, (∀ j, j < n → pd' j = pd j ∧ pt' j = pt j) → pY bg pd' pt' y n = pY bg pd pt y n
  | 0, _ => rfl
  | n + 1, h => by rw [pY_s, pY_s, pY_congr n (fun j hj => h j (by omega)), (h n (by omega)).1, (h n (by omega)).2]
theorem up_s {f : Nat → Nat} {k v : Nat} : va_up f k v k = v := by simp [va_up]
theorem up_n {f : Nat → Nat} {k v j : Nat} (h : j ≠ k) : va_up f k v j = f j := by simp [va_up, h]
theorem tk_sum (b : Nat → Nat) (a : Nat) : ∀ n, sm (fun j => b j - tkP b a j) n + (a - tkR b a n) = sm b n
  | 0 => by show 0 + (a - a) = 0; omega
  | n + 1 => by
    have h1 := tk_sum b a n
    have h2 := tkR_le b a n
    rw [sm_s, sm_s, tkR_s]
    show sm (fun j => b j - tkP b a j) n + (b n - min (tkR b a n) (b n)) + (a - (tkR b a n - b n)) = sm b n + b n
    omega
theorem tk_sum2 (b : Nat → Nat) (a n : Nat) : sm b n ≤ sm (tkB b a n) n + a := by
  have h1 := tk_sum b a n
  have h2 : sm (tkB b a n) n = sm (fun j => b j - tkP b a j) n := sm_congr n (fun j hj => by unfold tkB; rw [if_pos hj])
  omega
theorem nk_room0 {b : Nat → Nat} {k G : Nat} (h : G < ceilA (sm b k)) : G - ceilA (sm (tkB b ((ceilA (sm b k) - G) * 10000) k) k) = 0 := by
  have h1 := tk_sum2 b ((ceilA (sm b k) - G) * 10000) k
  have e1 : ceilA (sm b k) = (sm b k + 9999) / 10000 := rfl
  have e2 : ceilA (sm (tkB b ((ceilA (sm b k) - G) * 10000) k) k) = (sm (tkB b ((ceilA (sm b k) - G) * 10000) k) k + 9999) / 10000 := rfl
  rw [e2]
  generalize sm (tkB b ((ceilA (sm b k) - G) * 10000) k) k = T at h1
  omega
theorem dyE_run {d lc : Nat} {e : Nat → Nat} (h : 0 < alive e lc) : dyE d lc e = d := by unfold dyE; rw [if_neg (by omega)]
theorem dyE_none {d lc : Nat} {e : Nat → Nat} (h : lc = 0) : dyE d lc e = d := by unfold dyE; rw [if_neg (by omega)]
theorem dyE_le {d lc : Nat} {e : Nat → Nat} (h : ∀ j, j < lc → e j ≤ d + 1) : dyE d lc e ≤ d := by
  unfold dyE; split
  · have := mxE_le (f := e) (M := d + 1) lc h; omega
  · exact Nat.le_refl _
theorem alive_up {e : Nat → Nat} {a v : Nat} : ∀ n, a < n → e a = 0 → 0 < alive e n
  | 0, h, _ => by omega
  | n + 1, h, h0 => by
    rw [alive_s]
    by_cases q : a = n
    · subst q; rw [if_pos h0]; omega
    · have := alive_up (e := e) (v := v) n (by omega) h0; omega
theorem dyE_end {d lc a : Nat} {e : Nat → Nat} (h : ∀ j, j < lc → e j ≤ d + 1) (ha : a < lc) : dyE d lc (va_up e a (d + 1)) = d := by
  unfold dyE; split
  · have h1 := mxE_le (f := va_up e a (d + 1)) (M := d + 1) lc (fun j hj => by
      by_cases q : j = a
      · subst q; rw [up_s]; exact Nat.le_refl _
      · rw [up_n q]; exact h j hj)
    have h2 := mxE_ge (f := va_up e a (d + 1)) lc a ha
    rw [up_s] at h2
    omega
  · rfl
def InvA (d r lc bg w rm k pn : Nat) : Prop := d ≤ 15000 ∧ r ≤ 2000 ∧ lc ≤ 2 ∧ bg ≤ d ∧ w ≤ 10000000 ∧ rm ≤ 5500000 ∧ k ≤ 20 ∧ pn ≤ 40
def InvL (d lc : Nat) (fa e1 ga e2 : Nat → Nat) : Prop := ∀ j, j < lc → (55 ≤ fa j ∧ fa j ≤ 95) ∧ fa j = ga j ∧ e1 j = e2 j ∧ e1 j ≤ d + 1
def InvG (lc bg k pn gb pi : Nat) (e2 : Nat → Nat) : Prop := gb = (if lc = 0 then 0 else bg + 1) ∧ (lc = 0 → k = 0 ∧ pn = 0 ∧ pi = 0 ∧ bg = 0) ∧ (lc = 0 → e2 0 = 0 ∧ e2 1 = 0) ∧ e2 0 ≤ 15001 ∧ e2 1 ≤ 15001
def InvD (d k : Nat) (am dd rt : Nat → Nat) : Prop := ∀ q, q < k → am q ≤ 5500000 ∧ rt q ≤ 2000 ∧ dd q ≤ d
def InvB (d k : Nat) (b : Nat → Nat) : Prop := ∀ q, q < k → okB (b q) d
def InvP (d bg pn : Nat) (pd pt : Nat → Nat) : Prop := ∀ j, j < pn → bg ≤ pd j ∧ pd j ≤ d ∧ pt j ≤ 10000000
def InvH (dy k pn : Nat) (am dd rt b pd tp : Nat → Nat) : Prop := ∀ q, q < k → (∀ j, j < pn → 0 < tp (q * 40 + j) → (hX am dd rt pd tp q j).2 ≤ pd j ∧ tp (q * 40 + j) ≤ roll (rt q) (hX am dd rt pd tp q j).1 (pd j - (hX am dd rt pd tp q j).2)) ∧ (hX am dd rt pd tp q pn).2 ≤ dy ∧ b q = anw am dd rt pd tp dy pn q
def InvT (k pn : Nat) (tp : Nat → Nat) : Prop := ∀ q j, j < 40 → (k ≤ q ∨ pn ≤ j) → tp (q * 40 + j) = 0
def InvY (d bg k pn dr pa pi : Nat) (am pd pt : Nat → Nat) : Prop := dr = sm am k ∧ pi ≤ (d - bg) / 365 ∧ ∀ y, pi ≤ y → pY bg pd pt y pn = (if y = pi then pa else 0)
def Inv (d r lc bg w rm k pn : Nat) (fa e1 am dd rt b pd pt tp : Nat → Nat) (gb dr pa pi : Nat) (ga e2 : Nat → Nat) : Prop :=
  InvA d r lc bg w rm k pn ∧ InvL d lc fa e1 ga e2 ∧ InvG lc bg k pn gb pi e2 ∧ InvD d k am dd rt ∧ InvB d k b ∧ InvP d bg pn pd pt ∧ InvH (dyE d lc e1) k pn am dd rt b pd tp ∧ InvT k pn tp ∧ InvY d bg k pn dr pa pi am pd pt
section KeepH
variable {d dy k pn : Nat} {am dd rt b pd tp : Nat → Nat}
theorem InvH_pass {n : Nat} (h : InvH d k pn am dd rt b pd tp) : InvH (d + n) k pn am dd rt (rlB rt b n k) pd tp := by
  intro q hq
  obtain ⟨h1, h2, h3⟩ := h q hq
  refine ⟨h1, by omega, ?_⟩
  show (if q < k then roll (rt q) (b q) n else b q) = _
  rw [if_pos hq, h3]
  unfold anw
  rw [← roll_add]
  congr 1; omega
theorem InvH_draw {a r : Nat} (h : InvH d k pn am dd rt b pd tp) (hT : InvT k pn tp) (hp : pn ≤ 40) : InvH d (k + 1) pn (va_up am k a) (va_up dd k d) (va_up rt k r) (va_up b k (a * 10000)) pd tp := by
  intro q hq
  by_cases e : q = k
  · subst e
    have h0 : ∀ j, j < pn → tp (q * 40 + j) = 0 := fun j hj => hT q j (by omega) (Or.inl (Nat.le_refl _))
    have h1 : ∀ n, n ≤ pn → hX (va_up am q a) (va_up dd q d) (va_up rt q r) pd tp q n = (a * 10000, d) := fun n hn => by rw [hX_none n (fun j hj => h0 j (by omega)), up_s, up_s]
    refine ⟨fun j hj hp => absurd hp (by rw [h0 j hj]; omega), by rw [h1 pn (Nat.le_refl _)]; exact Nat.le_refl _, ?_⟩
    unfold anw
    rw [h1 pn (Nat.le_refl _), up_s]
    show a * 10000 = roll _ (a * 10000) (d - d)
    rw [Nat.sub_self]; rfl
  · obtain ⟨h1, h2, h3⟩ := h q (by omega)
    have hc : ∀ n, hX (va_up am k a) (va_up dd k d) (va_up rt k r) pd tp q n = hX am dd rt pd tp q n := fun n => hX_congr (up_n e) (up_n e) (up_n e) n (fun _ _ => rfl) (fun _ _ => rfl)
    refine ⟨fun j hj hp => by rw [hc, up_n e]; exact h1 j hj hp, by rw [hc]; exact h2, ?_⟩
    rw [up_n e, h3]
    unfold anw
    rw [hc, up_n e]
theorem tkT_o {a q j : Nat} (hj : j < 40) (h : j ≠ pn) : tkT tp b a pn k (q * 40 + j) = tp (q * 40 + j) := by
  unfold tkT; rw [if_neg (fun x => h (by omega))]
theorem tkT_h {a q : Nat} (hp : pn < 40) (h : q < k) : tkT tp b a pn k (q * 40 + pn) = tkP b a q := by
  have e1 : (q * 40 + pn) / 40 = q := by omega
  unfold tkT; rw [e1, if_pos ⟨by omega, h⟩]
theorem InvH_take {a : Nat} (h : InvH d k pn am dd rt b pd tp) (hp : pn < 40) : InvH d k (pn + 1) am dd rt (tkB b a k) (va_up pd pn d) (tkT tp b a pn k) := by
  intro q hq
  obtain ⟨h1, h2, h3⟩ := h q hq
  have hc : ∀ n, n ≤ pn → hX am dd rt (va_up pd pn d) (tkT tp b a pn k) q n = hX am dd rt pd tp q n := fun n hn => hX_congr rfl rfl rfl n (fun j hj => up_n (by omega)) (fun j hj => tkT_o (by omega) (by omega))
  have hP : tkP b a q ≤ b q := Nat.min_le_right _ _
  have hb : b q = roll (rt q) (hX am dd rt pd tp q pn).1 (d - (hX am dd rt pd tp q pn).2) := h3
  have hB : tkB b a k q = b q - tkP b a q := by unfold tkB; rw [if_pos hq]
  refine ⟨fun j hj hpos => ?_, ?_, ?_⟩
  · by_cases e : j = pn
    · subst e
      rw [tkT_h hp hq] at hpos ⊢
      rw [hc j (Nat.le_refl _), up_s]
      exact ⟨h2, by rw [← hb]; exact hP⟩
    · rw [tkT_o (by omega) e] at hpos ⊢
      rw [hc j (by omega), up_n e]
      exact h1 j (by omega) hpos
  · rw [hX_s, tkT_h hp hq, hc pn (Nat.le_refl _), up_s]
    split
    · exact Nat.le_refl _
    · exact h2
  · unfold anw
    rw [hX_s, tkT_h hp hq, hc pn (Nat.le_refl _), up_s, hB]
    by_cases z : 0 < tkP b a q
    · rw [if_pos z]
      show b q - tkP b a q = roll (rt q) (roll (rt q) (hX am dd rt pd tp q pn).1 (d - (hX am dd rt pd tp q pn).2) - tkP b a q) (d - d)
      rw [Nat.sub_self, ← hb]; rfl
    · rw [if_neg z, ← hb]; omega
theorem InvT_take {a : Nat} (h : InvT k pn tp) : InvT k (pn + 1) (tkT tp b a pn k) := by
  intro q j hj hc
  have h0 := h q j hj (by omega)
  have e1 : (q * 40 + j) / 40 = q := by omega
  have e2 : (q * 40 + j) % 40 = j := by omega
  unfold tkT; rw [e1, e2, if_neg (by omega)]; exact h0
end KeepH
