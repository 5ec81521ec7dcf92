/-! a window of readings: the class's way -/
def cSet (K : Nat → Int) (ov : Int) (low hr p c : Nat) : Nat → Nat → Prop := fun p' h' => K p' = ov ∧ low ≤ h' ∧ h' ≤ hr ∧ (p' < p ∨ (p' = p ∧ h' < c))
def csum (g : Int → Int) (K : Nat → Int) (ov : Int) (V : Nat → Nat → Int) (low m p : Nat) : Int := sm p (fun p' => if K p' = ov then sm m (fun i => g (V p' (low + i))) else 0)
theorem csum_w (g : Int → Int) (K : Nat → Int) (ov : Int) (V : Nat → Nat → Int) (low m np : Nat) : csum g K ov V low m np = wsum g K ov V low np m := by
  unfold csum wsum hsum
  rw [← sm_swap]
  refine sm_congr (fun p hp => ?_)
  by_cases k : K p = ov
  · rw [if_pos k]
    exact sm_congr (fun i hi => by rw [if_pos k])
  · rw [if_neg k]
    refine (sm_zero m).symm.trans (sm_congr (fun i hi => ?_))
    rw [if_neg k]
/-- what a tally says -/
def tPart (w : Int) (t : Nat → Int) : Int := if w = 7 then t 0 else if w = 10 then t 1 else if w = 11 then t 2 else if t 1 = 0 then NV else if w = 8 then t 3 else if w = 9 then t 4 else if w = 6 then t 6 else t 8
theorem c_part {E : zE} {M : zM} {Q : Int → zM → Prop} {w : Int} (hw : 5 ≤ w ∧ w ≤ 11) (ht : ∀ j, j ≤ 8 → zR (M 26 j)) (h : Q (tPart w (M 26)) M) : zP E mX8_part [.inr (.inr 26), .inl w] M Q := by
  refine vcX8_part _ ?_
  have z : ∀ j, j ≤ 8 → zR (M 26 j) := ht
  have z0 := z 0 (by omega)
  have z1 := z 1 (by omega)
  have z2 := z 2 (by omega)
  have z3 := z 3 (by omega)
  have z4 := z 4 (by omega)
  have z6 := z 6 (by omega)
  have z8 := z 8 (by omega)
  have zw : zR w := by unfold zR; omega
  unfold tPart at h
  have h7 : w = 5 ∨ w = 6 ∨ w = 7 ∨ w = 8 ∨ w = 9 ∨ w = 10 ∨ w = 11 := by omega
  by_cases k : M 26 1 = 0
  · rcases h7 with rfl | rfl | rfl | rfl | rfl | rfl | rfl <;> simp [k, NV, zw, z0, z2] at h ⊢ <;> simp [h, zRd, z1, z0, z2, zR]
  · rcases h7 with rfl | rfl | rfl | rfl | rfl | rfl | rfl <;> simp [k, zw, z0, z1, z2, z3, z4, z6, z8] at h ⊢ <;> simp [h, z1, z0, z2, z3, z4, z6, z8]
def tSum (V : Nat → Nat → Int) (t : Nat → Int) (a b c : Int) : Prop := t 0 = a ∧ t 1 = b ∧ t 2 = c
theorem tadd_s {t u : Nat → Int} {h v : Int} (q : tadd t u h v) : u 0 = t 0 + vl v ∧ u 1 = t 1 + prs v ∧ u 2 = t 2 + abz v := by
  unfold tadd at q
  unfold vl prs abz
  split at q
  · rename_i k
    rw [if_pos k, if_pos k, if_pos k]
    omega
  · rename_i k
    rw [if_neg k, if_neg k, if_neg k]
    omega
theorem tadd_z {t u : Nat → Int} {h v : Int} (hh : zR h) (hv : zR v) (ht : ∀ j, 3 ≤ j → j ≤ 8 → zR (t j)) (q : tadd t u h v) : ∀ j, 3 ≤ j → j ≤ 8 → zR (u j) := by
  have t3 := ht 3 (by omega) (by omega)
  have t4 := ht 4 (by omega) (by omega)
  have t5 := ht 5 (by omega) (by omega)
  have t6 := ht 6 (by omega) (by omega)
  have t7 := ht 7 (by omega) (by omega)
  have t8 := ht 8 (by omega) (by omega)
  intro j j1 j2
  have hj : j = 3 ∨ j = 4 ∨ j = 5 ∨ j = 6 ∨ j = 7 ∨ j = 8 := by omega
  unfold tadd at q
  split at q
  · obtain ⟨-, -, -, q3, q4, q5, q6, q7, q8⟩ := q
    rcases hj with rfl | rfl | rfl | rfl | rfl | rfl
    · rw [q3]; exact t3
    · rw [q4]; exact t4
    · rw [q5]; exact t5
    · rw [q6]; exact t6
    · rw [q7]; exact t7
    · rw [q8]; exact t8
  · obtain ⟨-, -, -, q3, q4, q5, q6, q7, q8⟩ := q
    rcases hj with rfl | rfl | rfl | rfl | rfl | rfl
    · rw [q3]; split <;> assumption
    · rw [q4]; split <;> assumption
    · rw [q5]; split <;> assumption
    · rw [q6]; split <;> assumption
    · rw [q7]; split <;> assumption
    · rw [q8]; split <;> assumption
theorem sm_bd {n : Nat} {f : Nat → Int} {b : Int} (h : ∀ i, -b ≤ f i ∧ f i ≤ b) : -(b * n) ≤ sm n f ∧ sm n f ≤ b * n := by
  induction n with
  | zero => show -(b * ((0 : Nat) : Int)) ≤ 0 ∧ (0 : Int) ≤ b * ((0 : Nat) : Int); simp
  | succ n ih =>
    have := h n
    have e : b * ((n + 1 : Nat) : Int) = b * n + b := by
      rw [show ((n + 1 : Nat) : Int) = (n : Int) + 1 by omega, Int.mul_add, Int.mul_one]
    have e2 : sm (n + 1) f = sm n f + f n := rfl
    rw [e, e2]
    omega
