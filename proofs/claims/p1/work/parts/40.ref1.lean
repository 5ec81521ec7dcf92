/-! the reference's small methods -/
theorem zup_r (M : zM) (a i : Nat) (v : Int) (x y : Nat) : zup M a i v x y = if x = a then (if y = i then v else M a y) else M x y := by
  unfold zup
  by_cases h : x = a
  · rw [if_pos h, if_pos h]
  · rw [if_neg h, if_neg h]

theorem r_isIn {E : zE} {M : zM} {Q : Int → zM → Prop} {n lo hi : Int} (h1 : zR n) (h2 : zR lo) (h3 : zR hi) (h : Q (if lo ≤ n ∧ n ≤ hi then 1 else 0) M) : zP E mX12_isIn [.inl n, .inl lo, .inl hi] M Q := by
  refine vcX12_isIn _ _ _ ?_
  grind
theorem r_isHour {E : zE} {M : zM} {Q : Int → zM → Prop} {n : Int} (h1 : zR n) (h : Q (if 0 ≤ n ∧ n ≤ 99 then 1 else 0) M) : zP E mX12_isHour [.inl n] M Q := by
  refine vcX12_isHour _ ?_
  grind
theorem r_hours {E : zE} {M : zM} {Q : Int → zM → Prop} {n : Int} (h1 : zR n) (h2 : 0 ≤ M 102 3 ∧ M 102 3 ≤ 99)
    (h : if 0 ≤ n ∧ M 102 3 + n ≤ 99 then Q (M 102 3 + n) (zup (zup M 102 2 0) 102 3 (M 102 3 + n)) else Q (-1) (zup M 102 2 0)) : zP E mX12_hours [.inr (.inr 102), .inl n] M Q := by
  refine vcX12_hours _ ?_
  intro M1 hM1
  refine r_isIn h1 (zRd rfl) (zRd rfl) ?_
  subst hM1
  clear E
  simp [zup_r]
  grind [zR]
theorem r_post {E : zE} {M : zM} {Q : Int → zM → Prop} {k : Int} (h1 : zR k) (h2 : 0 ≤ M 102 4 ∧ M 102 4 ≤ 8)
    (h : if M 102 4 < 8 ∧ 0 ≤ k ∧ k ≤ 3 then Q (M 102 4) (zup (zup (zup M 102 2 0) 104 (M 102 4).toNat k) 102 4 (M 102 4 + 1)) else Q (-1) (zup M 102 2 0)) : zP E mX12_post [.inr (.inr 102), .inl k] M Q := by
  refine vcX12_post _ ?_
  intro M1 hM1
  subst hM1
  simp [zup_r]
  refine ⟨?_, ?_, ?_⟩
  · grind [zR]
  · intro hc
    grind
  · intro hc
    refine r_isIn h1 (zRd rfl) (zRd rfl) ?_
    simp [zup_r]
    grind [zR]
