/-! the two systems' worlds, and the numbers that they hold -/
abbrev tX (cI cJ : ClassId) : List (ClassId × FieldType) := [(cI, .int), (cJ, .long)]
def wX (h0 h1 h2 h3 h4 h5 h6 h7 h8 h9 : Nat) (cI cJ : ClassId) (d r lc bg w rm k pn : Nat) (fa e1 am dd rt b pd pt tp : Nat → Nat) : va_W :=
  [(h0, .inr (0, [.int (nI d), .int (nI r), .int (nI lc), .ref h1, .ref h2, .int (nI bg), .int (nI w), .int (nI rm), .int (nI k), .ref h3, .ref h4, .ref h5, .ref h6, .int (nI pn), .ref h7, .ref h8, .ref h9])),
   (h1, .inl (cI, 2, .inl (nF fa))), (h2, .inl (cI, 2, .inl (eF e1))), (h3, .inl (cI, 20, .inl (nF am))), (h4, .inl (cI, 20, .inl (nF dd))), (h5, .inl (cI, 20, .inl (nF rt))), (h6, .inl (cJ, 20, .inr (.inl (lF b)))), (h7, .inl (cI, 40, .inl (nF pd))), (h8, .inl (cI, 40, .inl (nF pt))), (h9, .inl (cJ, 800, .inr (.inl (lF tp))))]
def wM (g0 g1 g2 g3 g4 : Nat) (cI cJ : ClassId) (d r gb w rm lc k dr pn pa pi th : Nat) (ga e2 b rt : Nat → Nat) : va_W :=
  [(g0, .inr (1, [.int (nI d), .int (nI r), .int (nI gb), .int (nI w), .int (nI rm), .int (nI lc), .ref g1, .ref g2, .int (nI k), .ref g3, .ref g4, .long (lN dr), .int (nI pn), .long (lN pa), .int (nI pi), .int (nI th)])),
   (g1, .inl (cI, 2, .inl (nF ga))), (g2, .inl (cI, 2, .inl (nF e2))), (g3, .inl (cJ, 20, .inr (.inl (lF b)))), (g4, .inl (cI, 20, .inl (nF rt)))]
/-- how many of the first n lives have not ended (end days kept one higher; 0: alive) -/
def alive (f : Nat → Nat) : Nat → Nat
  | 0 => 0
  | n + 1 => alive f n + (if f n = 0 then 1 else 0)
def mxE (f : Nat → Nat) : Nat → Nat
  | 0 => 0
  | n + 1 => max (mxE f n) (f n)
/-- the least age of those alive, one higher; 0: none -/
def lstA (a f : Nat → Nat) : Nat → Nat
  | 0 => 0
  | n + 1 => if f n = 0 ∧ (lstA a f n = 0 ∨ a n + 1 < lstA a f n) then a n + 1 else lstA a f n
def sm (f : Nat → Nat) : Nat → Nat
  | 0 => 0
  | n + 1 => sm f n + f n
/-- n days of interest -/
def roll (r : Nat) (x : Nat) : Nat → Nat
  | 0 => x
  | n + 1 => roll r x n + roll r x n * r / 3650000
/-- what is left of an amount behind n drawings -/
def tkR (b : Nat → Nat) (a : Nat) : Nat → Nat
  | 0 => a
  | n + 1 => tkR b a n - b n
def tkP (b : Nat → Nat) (a : Nat) (n : Nat) : Nat := min (tkR b a n) (b n)
def tkB (b : Nat → Nat) (a : Nat) (n : Nat) : Nat → Nat := fun j => if j < n then b j - tkP b a j else b j
def tkT (tp b : Nat → Nat) (a p n : Nat) : Nat → Nat := fun q => if q % 40 = p ∧ q / 40 < n then tkP b a (q / 40) else tp q
def pY (bg : Nat) (pd pt : Nat → Nat) (y : Nat) : Nat → Nat
  | 0 => 0
  | n + 1 => pY bg pd pt y n + (if (pd n - bg) / 365 = y then pt n else 0)
def ceilA (x : Nat) : Nat := (x + 9999) / 10000
theorem alive_le (f : Nat → Nat) : ∀ n, alive f n ≤ n
  | 0 => Nat.le_refl _
  | n + 1 => by have := alive_le f n; simp only [alive]; split <;> omega
theorem alive_s (f : Nat → Nat) (n : Nat) : alive f (n + 1) = alive f n + (if f n = 0 then 1 else 0) := rfl
theorem sm_s (f : Nat → Nat) (n : Nat) : sm f (n + 1) = sm f n + f n := rfl
theorem roll_s (r x n : Nat) : roll r x (n + 1) = roll r x n + roll r x n * r / 3650000 := rfl
theorem sm_le {f : Nat → Nat} {M : Nat} : ∀ n, (∀ i, i < n → f i ≤ M) → sm f n ≤ n * M
  | 0, _ => Nat.zero_le _
  | n + 1, h => by
    have h1 := sm_le n (fun i hi => h i (by omega))
    have h2 := h n (by omega)
    rw [sm_s, Nat.succ_mul]; omega
theorem mxE_le {f : Nat → Nat} {M : Nat} : ∀ n, (∀ j, j < n → f j ≤ M) → mxE f n ≤ M
  | 0, _ => Nat.zero_le _
  | n + 1, h => by
    have h1 := mxE_le n (fun i hi => h i (by omega))
    have h2 := h n (by omega)
    show max (mxE f n) (f n) ≤ M
    omega
theorem mxE_ge {f : Nat → Nat} : ∀ n j, j < n → f j ≤ mxE f n
  | 0, _, h => by omega
  | n + 1, j, h => by
    show f j ≤ max (mxE f n) (f n)
    by_cases q : j = n
    · subst q; omega
    · have := mxE_ge (f := f) n j (by omega); omega
theorem alive_pos {f : Nat → Nat} : ∀ n, alive f n = 0 → ∀ j, j < n → 0 < f j
  | 0, _, _, h => by omega
  | n + 1, h0, j, h => by
    rw [alive_s] at h0
    by_cases q : j = n
    · subst q
      by_cases z : f j = 0
      · rw [if_pos z] at h0; omega
      · omega
    · exact alive_pos n (by omega) j (by omega)
theorem mxE_pos {f : Nat → Nat} {n : Nat} (h : 0 < n) (h0 : alive f n = 0) : 0 < mxE f n := Nat.lt_of_lt_of_le (alive_pos n h0 0 h) (mxE_ge n 0 h)
theorem nk_e1 {L : Nat} (h : 0 < L) : nI L - 1 = nI (L - 1) := by
  rw [show (1 : Int32) = nI 1 from by decide +kernel]; exact pk_sub (by omega)
theorem nk_e2 {L : Nat} : nI (L + 1) - 1 = nI L := nI_pred L
theorem lstA_s (a f : Nat → Nat) (n : Nat) : lstA a f (n + 1) = if f n = 0 ∧ (lstA a f n = 0 ∨ a n + 1 < lstA a f n) then a n + 1 else lstA a f n := rfl
theorem lstA_le {a f : Nat → Nat} : ∀ n, (∀ j, j < n → 55 ≤ a j ∧ a j ≤ 95) → lstA a f n ≤ 96
  | 0, _ => Nat.zero_le _
  | n + 1, h => by
    have h1 := lstA_le (f := f) n (fun i hi => h i (by omega))
    have h2 := h n (by omega)
    rw [lstA_s]; split <;> omega
theorem lstA_pos {a f : Nat → Nat} : ∀ n, 0 < alive f n → 0 < lstA a f n
  | 0, h => by simp [alive] at h
  | n + 1, h => by
    rw [lstA_s]
    by_cases c : f n = 0 ∧ (lstA a f n = 0 ∨ a n + 1 < lstA a f n)
    · rw [if_pos c]; omega
    · rw [if_neg c]
      rw [alive_s] at h
      by_cases z : f n = 0
      · have : ¬ (lstA a f n = 0 ∨ a n + 1 < lstA a f n) := fun q => c ⟨z, q⟩
        omega
      · rw [if_neg z] at h; exact lstA_pos n (by omega)
theorem lstA_ge {a f : Nat → Nat} : ∀ n, (∀ j, j < n → 55 ≤ a j ∧ a j ≤ 95) → 0 < lstA a f n → 56 ≤ lstA a f n
  | 0, _, h => by simp [lstA] at h
  | n + 1, hA, h => by
    have h2 := hA n (by omega)
    rw [lstA_s] at h ⊢
    by_cases c : f n = 0 ∧ (lstA a f n = 0 ∨ a n + 1 < lstA a f n)
    · rw [if_pos c]; omega
    · rw [if_neg c] at h ⊢
      exact lstA_ge n (fun i hi => hA i (by omega)) h
/-- the age that counts on a day, one higher; 0: none -/
def agE (a f : Nat → Nat) (n y : Nat) : Nat := if lstA a f n = 0 then 0 else lstA a f n + y
theorem agE_pos {a f : Nat → Nat} {n y : Nat} (h : 0 < lstA a f n) : agE a f n y = lstA a f n + y := by unfold agE; rw [if_neg (by omega)]
theorem agE_0 {a f : Nat → Nat} {n y : Nat} (h : lstA a f n = 0) : agE a f n y = 0 := by unfold agE; rw [if_pos h]
theorem agE_r {a f : Nat → Nat} {n y : Nat} (h : 0 < lstA a f n) : nI (lstA a f n - 1 + y) = nI (agE a f n y) - 1 := by
  rw [agE_pos h, nk_e1 (by omega)]; congr 1; omega
def gL (w a : Nat) : Nat := w * min 55 (20 + a - 55) / 100
theorem gL_le {w a : Nat} (h : w ≤ 10000000) : gL w a ≤ 5500000 := by
  have h9 : w * min 55 (20 + a - 55) ≤ 10000000 * 55 := Nat.mul_le_mul h (Nat.min_le_left _ _)
  unfold gL; omega
def chg (M d y dr pp a : Nat) : Nat := if 0 < M ∧ d - (M - 1) ≤ 1095 then 0 else (a - (dr / 10 - pp)) * (10 - y) / 100
theorem pY_s (bg : Nat) (pd pt : Nat → Nat) (y n : Nat) : pY bg pd pt y (n + 1) = pY bg pd pt y n + (if (pd n - bg) / 365 = y then pt n else 0) := rfl
theorem pY_le {bg y M : Nat} {pd pt : Nat → Nat} : ∀ n, (∀ i, i < n → pt i ≤ M) → pY bg pd pt y n ≤ n * M
  | 0, _ => Nat.zero_le _
  | n + 1, h => by
    have h1 := pY_le (bg := bg) (y := y) (pd := pd) n (fun i hi => h i (by omega))
    have h2 := h n (by omega)
    rw [pY_s, Nat.succ_mul]; split <;> omega
theorem roll_stop {r x i : Nat} (h : roll r x i * r / 3650000 = 0) : ∀ j, roll r x (i + j) = roll r x i
  | 0 => rfl
  | j + 1 => by
    have h1 := roll_stop h j
    rw [show i + (j + 1) = (i + j) + 1 from rfl, roll_s, h1, h]; rfl
/-- a drawing's balance from its own day on: after n payments, and the day reached -/
def hX (am dd rt pd tp : Nat → Nat) (q : Nat) : Nat → Nat × Nat
  | 0 => (am q * 10000, dd q)
  | n + 1 => if 0 < tp (q * 40 + n) then (roll (rt q) (hX am dd rt pd tp q n).1 (pd n - (hX am dd rt pd tp q n).2) - tp (q * 40 + n), pd n) else hX am dd rt pd tp q n
theorem hX_s (am dd rt pd tp : Nat → Nat) (q n : Nat) : hX am dd rt pd tp q (n + 1) = if 0 < tp (q * 40 + n) then (roll (rt q) (hX am dd rt pd tp q n).1 (pd n - (hX am dd rt pd tp q n).2) - tp (q * 40 + n), pd n) else hX am dd rt pd tp q n := rfl
/-- the day up to which interest counts -/
def dyE (d lc : Nat) (f : Nat → Nat) : Nat := if 0 < lc ∧ alive f lc = 0 then mxE f lc - 1 else d
def anw (am dd rt pd tp : Nat → Nat) (dy pn q : Nat) : Nat := roll (rt q) (hX am dd rt pd tp q pn).1 (dy - (hX am dd rt pd tp q pn).2)
theorem tkR_s (b : Nat → Nat) (a n : Nat) : tkR b a (n + 1) = tkR b a n - b n := rfl
theorem tkR_le (b : Nat → Nat) (a : Nat) : ∀ n, tkR b a n ≤ a
  | 0 => Nat.le_refl _
  | n + 1 => by have := tkR_le b a n; rw [tkR_s]; omega
theorem tkB_self (b : Nat → Nat) (a i : Nat) : tkB b a i i = b i := by simp [tkB]
theorem tkB_s (b : Nat → Nat) (a i : Nat) : va_up (tkB b a i) i (b i - min (tkR b a i) (b i)) = tkB b a (i + 1) := by
  funext j
  by_cases h : j = i
  · subst h; simp [va_up, tkB, tkP]
  · by_cases h2 : j < i
    · simp only [va_up, tkB, if_neg h, if_pos h2, if_pos (show j < i + 1 by omega)]
    · simp only [va_up, tkB, if_neg h, if_neg h2, if_neg (show ¬ j < i + 1 by omega)]
theorem tkB_0 (b : Nat → Nat) (a : Nat) : tkB b a 0 = b := by funext j; simp [tkB]
theorem tkT_0 (tp b : Nat → Nat) (a p : Nat) : tkT tp b a p 0 = tp := by funext j; simp [tkT]
theorem tkT_s (tp b : Nat → Nat) (a p i : Nat) (hp : p < 40) : va_up (tkT tp b a p i) (i * 40 + p) (min (tkR b a i) (b i)) = tkT tp b a p (i + 1) := by
  funext j
  by_cases h : j = i * 40 + p
  · have h1 : j % 40 = p := by omega
    have h2 : j / 40 = i := by omega
    simp only [va_up, tkT, if_pos h, h2]
    rw [if_pos ⟨h1, by omega⟩]; rfl
  · simp only [va_up, tkT, if_neg h]
    by_cases h2 : j % 40 = p ∧ j / 40 < i
    · rw [if_pos h2, if_pos ⟨h2.1, by omega⟩]
    · rw [if_neg h2, if_neg (fun q => by
        obtain ⟨q1, q2⟩ := q
        by_cases h3 : j / 40 = i
        · omega
        · exact h2 ⟨q1, by omega⟩)]
/-- n days of interest for the first i drawings -/
def rlB (rt b : Nat → Nat) (n i : Nat) : Nat → Nat := fun j => if j < i then roll (rt j) (b j) n else b j
theorem rlB_0 (rt b : Nat → Nat) (n : Nat) : rlB rt b n 0 = b := by funext j; simp [rlB]
theorem rlB_self (rt b : Nat → Nat) (n i : Nat) : rlB rt b n i i = b i := by simp [rlB]
theorem rlB_s (rt b : Nat → Nat) (n i : Nat) : va_up (rlB rt b n i) i (roll (rt i) (b i) n) = rlB rt b n (i + 1) := by
  funext j
  by_cases h : j = i
  · subst h; simp [va_up, rlB]
  · by_cases h2 : j < i
    · simp only [va_up, rlB, if_neg h, if_pos h2, if_pos (show j < i + 1 by omega)]
    · simp only [va_up, rlB, if_neg h, if_neg h2, if_neg (show ¬ j < i + 1 by omega)]
theorem sm_mono {f g : Nat → Nat} : ∀ n, (∀ j, j < n → f j ≤ g j) → sm f n ≤ sm g n
  | 0, _ => Nat.le_refl _
  | n + 1, h => by
    have h1 := sm_mono n (fun i hi => h i (by omega))
    have h2 := h n (by omega)
    rw [sm_s, sm_s]; omega
theorem tkB_le (b : Nat → Nat) (a n j : Nat) : tkB b a n j ≤ b j := by
  unfold tkB; split
  · exact Nat.sub_le _ _
  · exact Nat.le_refl _
