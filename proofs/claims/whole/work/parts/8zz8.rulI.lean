/-! the reader of rules: whether a sign joins two values -/
def sgF (M : zM) : Int := if M 102 19 = 1 then (if M 102 20 = 3 then 13 else if M 102 20 = 2 then 14 else -1) else if M 102 19 = 3 then (if M 102 20 < 11 then M 102 20 else -1) else -1
theorem r_signNow {E : zE} {M : zM} {Q : Int → zM → Prop} (h1 : 0 ≤ M 102 19 ∧ M 102 19 ≤ 4) (h2 : M 102 19 = 3 → 0 ≤ M 102 20 ∧ M 102 20 ≤ 99) (h3 : M 102 19 = 1 → 0 ≤ M 102 20 ∧ M 102 20 ≤ 15) (h : Q (sgF M) M) : zP E mX12_signNow [.inr (.inr 102)] M Q := by
  refine vcX12_signNow ?_
  unfold sgF at h
  have zk : zR (M 102 19) := by unfold zR; omega
  have z3 : M 102 19 = 3 → zR (M 102 20) := fun q => by have := h2 q; unfold zR; omega
  have z1 : M 102 19 = 1 → zR (M 102 20) := fun q => by have := h3 q; unfold zR; omega
  refine ⟨zk, fun q => ⟨zk, fun q2 => ?_, fun q2 => ⟨z3 q2, fun q3 => ?_, fun q3 => ?_⟩⟩, fun q => ⟨z1 q, fun q2 => ⟨z1 q, fun q3 => ?_, fun q3 => ?_⟩, fun q2 => ?_⟩⟩
  · rw [if_neg q, if_neg q2] at h; exact h
  · rw [if_neg q, if_pos q2, if_neg (show ¬ M 102 20 < 11 by omega)] at h; exact h
  · rw [if_neg q, if_pos q2, if_pos q3] at h; exact h
  · rw [if_pos q, if_neg q2, if_neg q3] at h; exact h
  · rw [if_pos q, if_neg q2, if_pos q3] at h; exact h
  · rw [if_pos q, if_pos q2] at h; exact h
theorem sgF_k {b : Nat} {t : Nat → Int} {n : Nat} {R : Int × zM} {M V : zM} {k a : Nat} (h : tkS b t n R M V k a) : (0 ≤ sgF M ∧ opTwo (lxK t n a) ∧ sgF M = opk (lxK t n a)) ∨ (sgF M = -1 ∧ ¬ opTwo (lxK t n a)) := by
  have c := tkS_k h
  have sg : sgF M = if M 102 19 = 1 then (if M 102 20 = 3 then 13 else if M 102 20 = 2 then 14 else -1) else if M 102 19 = 3 then (if M 102 20 < 11 then M 102 20 else -1) else -1 := rfl
  rw [sg]
  unfold opTwo opk
  by_cases q : M 102 19 = 1
  · rw [if_pos q]
    have e : M 102 20 = lxK t n a := by omega
    by_cases q3 : M 102 20 = 3
    · rw [if_pos q3, ← e, if_neg (show ¬ M 102 20 = 2 by omega), if_pos q3]
      omega
    · rw [if_neg q3]
      by_cases q2 : M 102 20 = 2
      · rw [if_pos q2, ← e, if_pos q2]
        omega
      · rw [if_neg q2]
        omega
  · rw [if_neg q]
    by_cases q3 : M 102 19 = 3
    · rw [if_pos q3]
      by_cases q4 : M 102 20 < 11
      · rw [if_pos q4, if_neg (show ¬ lxK t n a = 2 by omega), if_neg (show ¬ lxK t n a = 3 by omega)]
        by_cases q5 : lxK t n a < 25
        · rw [if_pos q5]; omega
        · rw [if_neg q5]; omega
      · rw [if_neg q4]
        omega
    · rw [if_neg q3]
      omega
