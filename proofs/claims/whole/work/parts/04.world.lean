/-! the two systems' worlds, and the numbers that they hold -/
abbrev tX (cI cJ : ClassId) : List (ClassId × FieldType) := [(cI, .int), (cJ, .long)]
def wX (h0 h1 h2 h3 h4 h5 h6 h7 h8 h9 : Nat) (cI cJ : ClassId) (d r lc bg w rm k p : Nat) (fa e1 am dd rt b pd pt tp : Nat → Nat) : va_W :=
  [(h0, .inr (0, [.int (nI d), .int (nI r), .int (nI lc), .ref h1, .ref h2, .int (nI bg), .int (nI w), .int (nI rm), .int (nI k), .ref h3, .ref h4, .ref h5, .ref h6, .int (nI p), .ref h7, .ref h8, .ref h9])),
   (h1, .inl (cI, 2, .inl (nF fa))), (h2, .inl (cI, 2, .inl (eF e1))), (h3, .inl (cI, 20, .inl (nF am))), (h4, .inl (cI, 20, .inl (nF dd))), (h5, .inl (cI, 20, .inl (nF rt))), (h6, .inl (cJ, 20, .inr (.inl (lF b)))), (h7, .inl (cI, 40, .inl (nF pd))), (h8, .inl (cI, 40, .inl (nF pt))), (h9, .inl (cJ, 800, .inr (.inl (lF tp))))]
def wM (g0 g1 g2 g3 g4 : Nat) (cI cJ : ClassId) (d r gb w rm lc k dr p pa pi th : Nat) (ga e2 b rt : Nat → Nat) : va_W :=
  [(g0, .inr (1, [.int (nI d), .int (nI r), .int (nI gb), .int (nI w), .int (nI rm), .int (nI lc), .ref g1, .ref g2, .int (nI k), .ref g3, .ref g4, .long (lN dr), .int (nI p), .long (lN pa), .int (nI pi), .int (nI th)])),
   (g1, .inl (cI, 2, .inl (nF ga))), (g2, .inl (cI, 2, .inl (nF e2))), (g3, .inl (cJ, 20, .inr (.inl (lF b)))), (g4, .inl (cI, 20, .inl (nF rt)))]
/-- how many of the first n lives have not ended (end days kept one higher; 0: alive) -/
def alive (f : Nat → Nat) : Nat → Nat
  | 0 => 0
  | n + 1 => alive f n + (if f n = 0 then 1 else 0)
def mxE (f : Nat → Nat) : Nat → Nat
  | 0 => 0
  | n + 1 => max (mxE f n) (f n)
/-- the least age of those alive, one higher; 0: none -/
def lstA (a f : Nat → Nat) : Nat → Nat
  | 0 => 0
  | n + 1 => if f n = 0 ∧ (lstA a f n = 0 ∨ a n + 1 < lstA a f n) then a n + 1 else lstA a f n
def sm (f : Nat → Nat) : Nat → Nat
  | 0 => 0
  | n + 1 => sm f n + f n
/-- n days of interest -/
def roll (r : Nat) (x : Nat) : Nat → Nat
  | 0 => x
  | n + 1 => roll r x n + roll r x n * r / 3650000
/-- what is left of an amount behind n drawings -/
def tkR (b : Nat → Nat) (a : Nat) : Nat → Nat
  | 0 => a
  | n + 1 => tkR b a n - b n
def tkP (b : Nat → Nat) (a : Nat) (n : Nat) : Nat := min (tkR b a n) (b n)
def tkB (b : Nat → Nat) (a : Nat) (n : Nat) : Nat → Nat := fun j => if j < n then b j - tkP b a j else b j
def tkT (tp b : Nat → Nat) (a p n : Nat) : Nat → Nat := fun q => if q % 40 = p ∧ q / 40 < n then tkP b a (q / 40) else tp q
def pY (bg : Nat) (pd pt : Nat → Nat) (y : Nat) : Nat → Nat
  | 0 => 0
  | n + 1 => pY bg pd pt y n + (if (pd n - bg) / 365 = y then pt n else 0)
def ceilA (x : Nat) : Nat := (x + 9999) / 10000
theorem alive_le (f : Nat → Nat) : ∀ n, alive f n ≤ n
  | 0 => Nat.le_refl _
  | n + 1 => by have := alive_le f n; simp only [alive]; split <;> omega
theorem alive_s (f : Nat → Nat) (n : Nat) : alive f (n + 1) = alive f n + (if f n = 0 then 1 else 0) := rfl
theorem sm_s (f : Nat → Nat) (n : Nat) : sm f (n + 1) = sm f n + f n := rfl
theorem roll_s (r x n : Nat) : roll r x (n + 1) = roll r x n + roll r x n * r / 3650000 := rfl
theorem sm_le {f : Nat → Nat} {M : Nat} : ∀ n, (∀ i, i < n → f i ≤ M) → sm f n ≤ n * M
  | 0, _ => Nat.zero_le _
  | n + 1, h => by
    have h1 := sm_le n (fun i hi => h i (by omega))
    have h2 := h n (by omega)
    rw [sm_s, Nat.succ_mul]; omega
