/-! each call keeps what holds -/
section Keep
variable {d r lc bg w rm k pn : Nat} {fa e1 am dd rt b pd pt tp : Nat → Nat} {gb dr pa pi : Nat} {ga e2 : Nat → Nat}
theorem Inv_setRate (h : Inv d r lc bg w rm k pn fa e1 am dd rt b pd pt tp gb dr pa pi ga e2) {v : Nat} (hv : v ≤ 2000) : Inv d v lc bg w rm k pn fa e1 am dd rt b pd pt tp gb dr pa pi ga e2 := by
  obtain ⟨⟨a1, a2, a3, a4, a5, a6, a7, a8⟩, hL, ⟨g1, g2, g3, g4, g5⟩, hD, hB, hP, hH, hT, hY⟩ := h
  exact ⟨⟨a1, hv, a3, a4, a5, a6, a7, a8⟩, hL, ⟨g1, g2, g3, g4, g5⟩, hD, hB, hP, hH, hT, hY⟩
theorem Inv_value (h : Inv d r lc bg w rm k pn fa e1 am dd rt b pd pt tp gb dr pa pi ga e2) {v : Nat} (hv : v ≤ 10000000) : Inv d r lc bg v rm k pn fa e1 am dd rt b pd pt tp gb dr pa pi ga e2 := by
  obtain ⟨⟨a1, a2, a3, a4, a5, a6, a7, a8⟩, hL, ⟨g1, g2, g3, g4, g5⟩, hD, hB, hP, hH, hT, hY⟩ := h
  exact ⟨⟨a1, a2, a3, a4, hv, a6, a7, a8⟩, hL, ⟨g1, g2, g3, g4, g5⟩, hD, hB, hP, hH, hT, hY⟩
theorem Inv_room (h : Inv d r lc bg w rm k pn fa e1 am dd rt b pd pt tp gb dr pa pi ga e2) {v x : Nat} (hv : v ≤ 10000000) (hx : x ≤ 5500000) : Inv d r lc bg v x k pn fa e1 am dd rt b pd pt tp gb dr pa pi ga e2 := by
  obtain ⟨⟨a1, a2, a3, a4, a5, a6, a7, a8⟩, hL, ⟨g1, g2, g3, g4, g5⟩, hD, hB, hP, hH, hT, hY⟩ := h
  exact ⟨⟨a1, a2, a3, a4, hv, hx, a7, a8⟩, hL, ⟨g1, g2, g3, g4, g5⟩, hD, hB, hP, hH, hT, hY⟩
theorem Inv_ga (h : Inv d r 0 bg w rm k pn fa e1 am dd rt b pd pt tp gb dr pa pi ga e2) {ga' : Nat → Nat} : Inv d r 0 bg w rm k pn fa e1 am dd rt b pd pt tp gb dr pa pi ga' e2 := by
  obtain ⟨⟨a1, a2, a3, a4, a5, a6, a7, a8⟩, hL, ⟨g1, g2, g3, g4, g5⟩, hD, hB, hP, hH, hT, hY⟩ := h
  exact ⟨⟨a1, a2, a3, a4, a5, a6, a7, a8⟩, fun j hj => absurd hj (by omega), ⟨g1, g2, g3, g4, g5⟩, hD, hB, hP, hH, hT, hY⟩
theorem Inv_end (h : Inv d r lc bg w rm k pn fa e1 am dd rt b pd pt tp gb dr pa pi ga e2) {a : Nat} (ha : a < lc) (h0 : e1 a = 0) : Inv d r lc bg w rm k pn fa (va_up e1 a (d + 1)) am dd rt b pd pt tp gb dr pa pi ga (va_up e2 a (d + 1)) := by
  obtain ⟨⟨a1, a2, a3, a4, a5, a6, a7, a8⟩, hL, ⟨g1, g2, g3, g4, g5⟩, hD, hB, hP, hH, hT, hY⟩ := h
  have hb : ∀ j, e2 j ≤ 15001 → va_up e2 a (d + 1) j ≤ 15001 := fun j hj => by
    by_cases q : j = a
    · subst q; rw [up_s]; omega
    · rw [up_n q]; exact hj
  refine ⟨⟨a1, a2, a3, a4, a5, a6, a7, a8⟩, fun j hj => ?_, ⟨g1, g2, fun z => absurd ha (by omega), hb 0 g4, hb 1 g5⟩, hD, hB, hP, ?_, hT, hY⟩
  · obtain ⟨l1, l2, l3, l4⟩ := hL j hj
    refine ⟨l1, l2, ?_, ?_⟩
    · by_cases q : j = a
      · subst q; rw [up_s, up_s]
      · rw [up_n q, up_n q]; exact l3
    · by_cases q : j = a
      · subst q; rw [up_s]; exact Nat.le_refl _
      · rw [up_n q]; exact l4
  · rw [dyE_end (fun j hj => (hL j hj).2.2.2) ha]
    rw [dyE_run (alive_up (v := 0) lc ha h0)] at hH
    exact hH
theorem Inv_passE (h : Inv d r lc bg w rm k pn fa e1 am dd rt b pd pt tp gb dr pa pi ga e2) {n : Nat} (hn : d + n ≤ 15000) (hE : 0 < lc ∧ alive e1 lc = 0) : Inv (d + n) r lc bg w rm k pn fa e1 am dd rt b pd pt tp gb dr pa pi ga e2 := by
  obtain ⟨⟨a1, a2, a3, a4, a5, a6, a7, a8⟩, hL, ⟨g1, g2, g3, g4, g5⟩, hD, hB, hP, hH, hT, hY⟩ := h
  refine ⟨⟨hn, a2, a3, by omega, a5, a6, a7, a8⟩, fun j hj => ?_, ⟨g1, g2, g3, g4, g5⟩, fun q hq => ?_, fun q hq => okB_up (hB q hq) n, fun j hj => ?_, ?_, hT, ⟨hY.1, Nat.le_trans hY.2.1 (Nat.div_le_div_right (by omega)), hY.2.2⟩⟩
  · obtain ⟨l1, l2, l3, l4⟩ := hL j hj; exact ⟨l1, l2, l3, by omega⟩
  · obtain ⟨l1, l2, l3⟩ := hD q hq; exact ⟨l1, l2, by omega⟩
  · obtain ⟨l1, l2, l3⟩ := hP j hj; exact ⟨l1, by omega, l3⟩
  · have e : dyE (d + n) lc e1 = dyE d lc e1 := by unfold dyE; rw [if_pos hE, if_pos hE]
    rw [e]; exact hH
theorem Inv_passR (h : Inv d r lc bg w rm k pn fa e1 am dd rt b pd pt tp gb dr pa pi ga e2) {n : Nat} (hn : d + n ≤ 15000) (hE : ¬ (0 < lc ∧ alive e1 lc = 0)) : Inv (d + n) r lc bg w rm k pn fa e1 am dd rt (rlB rt b n k) pd pt tp gb dr pa pi ga e2 := by
  obtain ⟨⟨a1, a2, a3, a4, a5, a6, a7, a8⟩, hL, ⟨g1, g2, g3, g4, g5⟩, hD, hB, hP, hH, hT, hY⟩ := h
  have e0 : dyE d lc e1 = d := by unfold dyE; rw [if_neg hE]
  have e1' : dyE (d + n) lc e1 = d + n := by unfold dyE; rw [if_neg hE]
  refine ⟨⟨hn, a2, a3, by omega, a5, a6, a7, a8⟩, fun j hj => ?_, ⟨g1, g2, g3, g4, g5⟩, fun q hq => ?_, fun q hq => ?_, fun j hj => ?_, ?_, hT, ⟨hY.1, Nat.le_trans hY.2.1 (Nat.div_le_div_right (by omega)), hY.2.2⟩⟩
  · obtain ⟨l1, l2, l3, l4⟩ := hL j hj; exact ⟨l1, l2, l3, by omega⟩
  · obtain ⟨l1, l2, l3⟩ := hD q hq; exact ⟨l1, l2, by omega⟩
  · show okB (if q < k then roll (rt q) (b q) n else b q) (d + n)
    rw [if_pos hq]; exact okB_roll (hB q hq) (hD q hq).2.1 n
  · obtain ⟨l1, l2, l3⟩ := hP j hj; exact ⟨l1, by omega, l3⟩
  · rw [e1']; rw [e0] at hH; exact InvH_pass hH
theorem Inv_draw (h : Inv d r lc bg w rm k pn fa e1 am dd rt b pd pt tp gb dr pa pi ga e2) {a : Nat} (ha : a ≤ rm) (hk : k < 20) (hlc : 0 < lc) (hal : 0 < alive e1 lc) : Inv d r lc bg w (rm - a) (k + 1) pn fa e1 (va_up am k a) (va_up dd k d) (va_up rt k r) (va_up b k (a * 10000)) pd pt tp gb (dr + a) pa pi ga e2 := by
  obtain ⟨⟨a1, a2, a3, a4, a5, a6, a7, a8⟩, hL, ⟨g1, g2, g3, g4, g5⟩, hD, hB, hP, hH, hT, hY⟩ := h
  rw [dyE_run hal] at hH
  refine ⟨⟨a1, a2, a3, a4, a5, by omega, by omega, a8⟩, hL, ⟨g1, fun z => absurd hlc (by omega), g3, g4, g5⟩, fun q hq => ?_, fun q hq => ?_, hP, ?_, fun q j hj hc => hT q j hj (by omega), ⟨?_, hY.2.1, hY.2.2⟩⟩
  · by_cases e : q = k
    · subst e; rw [up_s, up_s, up_s]; exact ⟨by omega, a2, Nat.le_refl _⟩
    · rw [up_n e, up_n e, up_n e]; exact hD q (by omega)
  · by_cases e : q = k
    · subst e; rw [up_s]; exact okB_0 (by omega)
    · rw [up_n e]; exact hB q (by omega)
  · rw [dyE_run hal]; exact InvH_draw hH hT a8
  · rw [sm_s, up_s, hY.1, sm_congr k (fun j hj => (up_n (show j ≠ k by omega) : va_up am k a j = am j))]
theorem Inv_take (h : Inv d r lc bg w rm k pn fa e1 am dd rt b pd pt tp gb dr pa pi ga e2) {A t9 pa' pi' w' rm' : Nat} (hlc : 0 < lc) (hal : 0 < alive e1 lc) (hp : pn < 40) (ht : t9 ≤ 10000000) (hw : w' ≤ 10000000) (hrm : rm' ≤ 5500000) (hY' : InvY d bg k (pn + 1) dr pa' pi' am (va_up pd pn d) (va_up pt pn t9)) : Inv d r lc bg w' rm' k (pn + 1) fa e1 am dd rt (tkB b A k) (va_up pd pn d) (va_up pt pn t9) (tkT tp b A pn k) gb dr pa' pi' ga e2 := by
  obtain ⟨⟨a1, a2, a3, a4, a5, a6, a7, a8⟩, hL, ⟨g1, g2, g3, g4, g5⟩, hD, hB, hP, hH, hT, hY⟩ := h
  rw [dyE_run hal] at hH
  refine ⟨⟨a1, a2, a3, a4, hw, hrm, a7, by omega⟩, hL, ⟨g1, fun z => absurd hlc (by omega), g3, g4, g5⟩, hD, fun q hq => okB_mono (tkB_le b A k q) (hB q hq), fun j hj => ?_, ?_, InvT_take hT, hY'⟩
  · by_cases e : j = pn
    · subst e; rw [up_s, up_s]; exact ⟨a4, Nat.le_refl _, ht⟩
    · rw [up_n e, up_n e]; exact hP j (by omega)
  · rw [dyE_run hal]; exact InvH_take hH hp
theorem InvY_pay (hY : InvY d bg k pn dr pa pi am pd pt) {a : Nat} : InvY d bg k (pn + 1) dr ((if pi = (d - bg) / 365 then pa else 0) + a) ((d - bg) / 365) am (va_up pd pn d) (va_up pt pn a) := by
  refine ⟨hY.1, Nat.le_refl _, fun y hy => ?_⟩
  rw [pY_s, up_s, up_s, pY_congr pn (fun j hj => ⟨(up_n (show j ≠ pn by omega) : va_up pd pn d j = pd j), (up_n (show j ≠ pn by omega) : va_up pt pn a j = pt j)⟩), hY.2.2 y (Nat.le_trans hY.2.1 hy)]
  by_cases e : y = (d - bg) / 365
  · subst e
    rw [if_pos rfl, if_pos rfl]
    by_cases e2 : pi = (d - bg) / 365
    · rw [if_pos e2.symm, if_pos e2]
    · rw [if_neg (fun x => e2 x.symm), if_neg e2]
  · have := hY.2.1
    rw [if_neg (show ¬ y = pi by omega), if_neg (fun x => e x.symm), if_neg e]
theorem InvY_move (hY : InvY d bg k pn dr pa pi am pd pt) : InvY d bg k (pn + 1) dr pa pi am (va_up pd pn d) (va_up pt pn 0) := by
  refine ⟨hY.1, hY.2.1, fun y hy => ?_⟩
  rw [pY_s, up_s, up_s, pY_congr pn (fun j hj => ⟨(up_n (show j ≠ pn by omega) : va_up pd pn d j = pd j), (up_n (show j ≠ pn by omega) : va_up pt pn 0 j = pt j)⟩), hY.2.2 y hy]
  by_cases e : (d - bg) / 365 = y
  · rw [if_pos e, Nat.add_zero]
  · rw [if_neg e, Nat.add_zero]
theorem Inv_begin1 (h : Inv d r 0 bg w rm 0 0 fa e1 am dd rt b pd pt tp gb dr pa pi ga e2) {a1 a2 a3 G : Nat} (h1 : a1 ≤ 10000000) (h2 : 55 ≤ a2 ∧ a2 ≤ 95) (hG : G ≤ 5500000) : Inv d r 1 d a1 G 0 0 (va_up fa 0 a2) (va_up e1 0 0) am dd rt b pd pt tp (d + 1) dr pa pi (va_up (va_up ga 0 a2) 1 a3) e2 := by
  obtain ⟨⟨x1, x2, x3, x4, x5, x6, x7, x8⟩, hL, ⟨g1, g2, g3, g4, g5⟩, hD, hB, hP, hH, hT, hY⟩ := h
  obtain ⟨-, -, hpi, -⟩ := g2 rfl
  obtain ⟨z0, z1⟩ := g3 rfl
  refine ⟨⟨x1, x2, by omega, Nat.le_refl _, h1, hG, x7, x8⟩, fun j hj => ?_, ⟨rfl, fun z => absurd z (by decide), fun _ => ⟨z0, z1⟩, g4, g5⟩, hD, hB, fun j hj => absurd hj (by omega), fun q hq => absurd hq (by omega), hT, ⟨hY.1, by rw [hpi]; exact Nat.zero_le _, fun y hy => hY.2.2 y hy⟩⟩
  have hj2 : j = 0 := by omega
  subst hj2
  refine ⟨?_, ?_, ?_, ?_⟩
  · show 55 ≤ a2 ∧ a2 ≤ 95
    exact h2
  · rfl
  · show 0 = e2 0
    exact z0.symm
  · exact Nat.zero_le _
theorem Inv_begin2 (h : Inv d r 0 bg w rm 0 0 fa e1 am dd rt b pd pt tp gb dr pa pi ga e2) {a1 a2 a3 G : Nat} (h1 : a1 ≤ 10000000) (h2 : 55 ≤ a2 ∧ a2 ≤ 95) (h3 : 55 ≤ a3 ∧ a3 ≤ 95) (hG : G ≤ 5500000) : Inv d r 2 d a1 G 0 0 (va_up (va_up fa 0 a2) 1 a3) (va_up (va_up e1 0 0) 1 0) am dd rt b pd pt tp (d + 1) dr pa pi (va_up (va_up ga 0 a2) 1 a3) e2 := by
  obtain ⟨⟨x1, x2, x3, x4, x5, x6, x7, x8⟩, hL, ⟨g1, g2, g3, g4, g5⟩, hD, hB, hP, hH, hT, hY⟩ := h
  obtain ⟨-, -, hpi, -⟩ := g2 rfl
  obtain ⟨z0, z1⟩ := g3 rfl
  refine ⟨⟨x1, x2, by omega, Nat.le_refl _, h1, hG, x7, x8⟩, fun j hj => ?_, ⟨rfl, fun z => absurd z (by decide), fun _ => ⟨z0, z1⟩, g4, g5⟩, hD, hB, fun j hj => absurd hj (by omega), fun q hq => absurd hq (by omega), hT, ⟨hY.1, by rw [hpi]; exact Nat.zero_le _, fun y hy => hY.2.2 y hy⟩⟩
  have hj2 : j = 0 ∨ j = 1 := by omega
  rcases hj2 with rfl | rfl
  · refine ⟨?_, ?_, ?_, ?_⟩
    · show 55 ≤ a2 ∧ a2 ≤ 95
      exact h2
    · rfl
    · show 0 = e2 0
      exact z0.symm
    · exact Nat.zero_le _
  · refine ⟨?_, ?_, ?_, ?_⟩
    · show 55 ≤ a3 ∧ a3 ≤ 95
      exact h3
    · rfl
    · show 0 = e2 1
      exact z1.symm
    · exact Nat.zero_le _
theorem Inv_0 : Inv 0 500 0 0 0 0 0 0 (fun _ => 0) (fun _ => 1) (fun _ => 0) (fun _ => 0) (fun _ => 0) (fun _ => 0) (fun _ => 0) (fun _ => 0) (fun _ => 0) 0 0 0 0 (fun _ => 0) (fun _ => 0) := by
  refine ⟨⟨by decide, by decide, by decide, by decide, by decide, by decide, by decide, by decide⟩, fun j hj => absurd hj (by omega), ⟨rfl, fun _ => ⟨rfl, rfl, rfl, rfl⟩, fun _ => ⟨rfl, rfl⟩, Nat.zero_le _, Nat.zero_le _⟩, fun j hj => absurd hj (by omega), fun j hj => absurd hj (by omega), fun j hj => absurd hj (by omega), fun j hj => absurd hj (by omega), fun _ _ _ _ => rfl, ⟨rfl, Nat.zero_le _, fun y _ => ?_⟩⟩
  show 0 = if y = 0 then 0 else 0
  split <;> rfl
theorem Inv_f (h : Inv d r lc bg w rm k pn fa e1 am dd rt b pd pt tp gb dr pa pi ga e2) : (lc ≤ 2) ∧ (d ≤ 15000) ∧ (k ≤ 20) ∧ (pn ≤ 40) ∧ (bg ≤ d) ∧ (w ≤ 10000000) ∧ (rm ≤ 10000000) ∧ (∀ j, j < lc → e1 j ≤ 15001) ∧ (∀ j, j < lc → e1 j ≤ d + 1) ∧ (∀ j, j < lc → 55 ≤ fa j ∧ fa j ≤ 95) ∧ (∀ j, j < k → am j ≤ 10000000) ∧ (∀ j, j < pn → bg ≤ pd j ∧ pd j ≤ 15000) ∧ (∀ j, j < pn → pd j ≤ 15000) ∧ (∀ j, j < pn → pt j ≤ 10000000) ∧ (sm b k < 1000000000000000000) ∧ (∀ j, j < k → b j < 4611686018427387904) ∧ (∀ q, q < k → rt q ≤ 2000) ∧ (∀ q, q < k → dd q ≤ 15000) ∧ (∀ q, q < k → ∀ j, d + j ≤ 15000 → roll (rt q) (b q) j * rt q < 9223372036854775808) ∧ (∀ q9, q9 < k → ∀ j, j < pn → 0 < tp (q9 * 40 + j) → (hX am dd rt pd tp q9 j).2 ≤ pd j ∧ tp (q9 * 40 + j) ≤ roll (rt q9) (hX am dd rt pd tp q9 j).1 (pd j - (hX am dd rt pd tp q9 j).2)) ∧ (∀ q9, q9 < k → (hX am dd rt pd tp q9 pn).2 ≤ dyE d lc e1) ∧ (∀ q9, q9 < k → ∀ j, j ≤ pn → (hX am dd rt pd tp q9 j).2 ≤ 15000 ∧ ∀ i, (hX am dd rt pd tp q9 j).2 + i ≤ 15000 → roll (rt q9) (hX am dd rt pd tp q9 j).1 i * rt q9 < 9223372036854775808) ∧ (∀ q9, q9 < k → ∀ j, j < pn → tp (q9 * 40 + j) < 4611686018427387904) ∧ (sm (anw am dd rt pd tp (dyE d lc e1) pn) k = sm b k) ∧ (lc = 0 → k = 0) ∧ (∀ j, j < lc → e2 j ≤ 15001) ∧ (∀ j, j < lc → e2 j ≤ d + 1) ∧ (∀ j, j < lc → 55 ≤ ga j ∧ ga j ≤ 95) ∧ (gb ≤ d + 1) ∧ (gb ≤ 15001) ∧ (pi ≤ 15000) ∧ (dr ≤ 1000000000) ∧ (pa ≤ 1000000000) ∧ (gb = 0 → e2 0 = 0) ∧ (gb = 0 → e2 1 = 0) ∧ (gb = 0 → k = 0) ∧ (∀ j, j < 2 → e2 j ≤ 15001) ∧ ((gb = 0 ↔ lc = 0) ∧ (0 < lc → gb = bg + 1)) ∧ (alive e2 lc = alive e1 lc) ∧ (mxE e2 lc = mxE e1 lc) ∧ (lstA ga e2 lc = lstA fa e1 lc) := by
  obtain ⟨⟨a1, a2, a3, a4, a5, a6, a7, a8⟩, hL, ⟨g1, g2, g3, g4, g5⟩, hD, hB, hP, hH, hT, hY⟩ := h
  have hgz : (gb = 0 ↔ lc = 0) ∧ (0 < lc → gb = bg + 1) := by
    by_cases z : lc = 0
    · rw [if_pos z] at g1; exact ⟨⟨fun _ => z, fun _ => g1⟩, fun x => absurd x (by omega)⟩
    · rw [if_neg z] at g1; exact ⟨⟨fun x => absurd x (by omega), fun x => absurd x z⟩, fun _ => g1⟩
  have hgl : gb ≤ d + 1 := by
    by_cases z : lc = 0
    · have := hgz.1.mpr z; omega
    · have := hgz.2 (by omega); omega
  have hbl : ∀ q, q < k → b q ≤ 220000000000000 := fun q hq => okB_lim (hB q hq) a1
  have hsl := sm_le k hbl
  have hsk : k * 220000000000000 ≤ 20 * 220000000000000 := Nat.mul_le_mul_right _ a7
  have hdy : dyE d lc e1 ≤ d := dyE_le (fun j hj => (hL j hj).2.2.2)
  have hroll : ∀ x r t j : Nat, okB x t → r ≤ 2000 → t + j ≤ 15000 → roll r x j * r < 9223372036854775808 := fun x r t j h1 h2 h3 => by
    have h4 := okB_lim (okB_roll h1 h2 j) h3
    have h5 : roll r x j * r ≤ 220000000000000 * 2000 := Nat.mul_le_mul h4 h2
    omega
  have hok : ∀ q, q < k → ∀ j, j ≤ pn → okB (hX am dd rt pd tp q j).1 (hX am dd rt pd tp q j).2 ∧ (hX am dd rt pd tp q j).2 ≤ 15000 := fun q hq => hX_ok (hD q hq).1 (hD q hq).2.1 (by have := (hD q hq).2.2; omega) (fun j hj => by have := (hP j hj).2.1; omega) (fun j hj hp => ((hH q hq).1 j hj hp).1)
  have hpa : pa = pY bg pd pt pi pn := by have := hY.2.2 pi (Nat.le_refl _); rw [if_pos rfl] at this; exact this.symm
  have hpl := pY_le (bg := bg) (y := pi) (pd := pd) pn (fun j hj => (hP j hj).2.2)
  have hpk : pn * 10000000 ≤ 40 * 10000000 := Nat.mul_le_mul_right _ a8
  have hdl := sm_le k (fun q hq => (hD q hq).1)
  have hdk : k * 5500000 ≤ 20 * 5500000 := Nat.mul_le_mul_right _ a7
  have hy1 := hY.1
  have hy2 := hY.2.1
  refine ⟨a3, a1, a7, a8, a4, a5, by omega, fun j hj => by have := (hL j hj).2.2.2; omega, fun j hj => (hL j hj).2.2.2, fun j hj => (hL j hj).1, fun j hj => by have := (hD j hj).1; omega, fun j hj => ⟨(hP j hj).1, by have := (hP j hj).2.1; omega⟩, fun j hj => by have := (hP j hj).2.1; omega, fun j hj => (hP j hj).2.2, by omega, fun j hj => by have := hbl j hj; omega, fun q hq => (hD q hq).2.1, fun q hq => by have := (hD q hq).2.2; omega, fun q hq j hj => hroll _ _ d j (hB q hq) (hD q hq).2.1 hj, fun q hq => (hH q hq).1, fun q hq => (hH q hq).2.1, fun q hq j hj => ⟨(hok q hq j hj).2, fun i hi => hroll _ _ _ i (hok q hq j hj).1 (hD q hq).2.1 hi⟩, fun q hq j hj => ?_, sm_congr k (fun q hq => (hH q hq).2.2.symm), fun z => (g2 z).1, fun j hj => by have := hL j hj; omega, fun j hj => by have := hL j hj; omega, fun j hj => by have := hL j hj; omega, hgl, by omega, by omega, by omega, by omega, fun z => (g3 (hgz.1.mp z)).1, fun z => (g3 (hgz.1.mp z)).2, fun z => (g2 (hgz.1.mp z)).1, fun j hj => ?_, hgz, alive_congr lc (fun j hj => (hL j hj).2.2.1.symm), mxE_congr lc (fun j hj => (hL j hj).2.2.1.symm), lstA_congr lc (fun j hj => ⟨(hL j hj).2.2.1.symm, (hL j hj).2.1.symm⟩)⟩
  · by_cases z : 0 < tp (q * 40 + j)
    · have h1 := (hH q hq).1 j hj z
      have h2 := okB_lim (okB_roll (hok q hq j (by omega)).1 (hD q hq).2.1 (pd j - (hX am dd rt pd tp q j).2)) (by have := (hP j hj).2.1; omega)
      omega
    · omega
  · have hj2 : j = 0 ∨ j = 1 := by omega
    rcases hj2 with rfl | rfl
    · exact g4
    · exact g5
theorem Inv_charge (h : Inv d r lc bg w rm k pn fa e1 am dd rt b pd pt tp gb dr pa pi ga e2) (hlc : 0 < lc) (a : Nat) : chg (mxE e2 lc) d ((d + 1 - gb) / 365) dr (if pi = (d + 1 - gb) / 365 then pa else 0) a = chg (mxE e1 lc) d ((d - bg) / 365) (sm am k) (pY bg pd pt ((d - bg) / 365) pn) a := by
  have hL := h.2.1
  have g1 := h.2.2.1.1
  have hY := h.2.2.2.2.2.2.2.2
  rw [if_neg (show ¬ lc = 0 by omega)] at g1
  rw [mxE_congr (f := e2) (g := e1) lc (fun j hj => (hL j hj).2.2.1.symm), g1, Nat.add_sub_add_right, hY.1, hY.2.2 _ hY.2.1]
  by_cases e : pi = (d - bg) / 365
  · rw [if_pos e, if_pos e.symm]
  · rw [if_neg e, if_neg (fun x => e x.symm)]
theorem Inv_allow (h : Inv d r lc bg w rm k pn fa e1 am dd rt b pd pt tp gb dr pa pi ga e2) : (if gb = 0 then 0 else dr / 10 - (if pi = (d + 1 - gb) / 365 then pa else 0)) = sm am k / 10 - pY bg pd pt ((d - bg) / 365) pn := by
  have g1 := h.2.2.1.1
  have g2 := h.2.2.1.2.1
  have hY := h.2.2.2.2.2.2.2.2
  by_cases z : lc = 0
  · rw [if_pos z] at g1
    obtain ⟨k0, -⟩ := g2 z
    rw [if_pos g1, k0]
    show 0 = 0 / 10 - _
    omega
  · rw [if_neg z] at g1
    rw [if_neg (show ¬ gb = 0 by omega), g1, Nat.add_sub_add_right, hY.1, hY.2.2 _ hY.2.1]
    by_cases e : pi = (d - bg) / 365
    · rw [if_pos e, if_pos e.symm]
    · rw [if_neg e, if_neg (fun x => e x.symm)]
end Keep
