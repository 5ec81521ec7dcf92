/-! the reader of rules: a sign that must stand, a number within bounds -/
theorem tkS_r {b : Nat} {t : Nat → Int} {n : Nat} {R : Int × zM} {M V : zM} {k a : Nat} (h : tkS b t n R M V k a) : (0 ≤ M 102 19 ∧ M 102 19 ≤ 4) ∧ (M 102 19 = 3 → 0 ≤ M 102 20 ∧ M 102 20 ≤ 99) ∧ (M 102 19 = 1 → 0 ≤ M 102 20 ∧ M 102 20 ≤ 15) ∧ (M 102 19 = 2 → 0 ≤ M 102 20 ∧ M 102 20 ≤ 999999) := by
  have nr := lxN_r t n a
  rcases tkS_k h with q | q | ⟨q1, q2, q3, q4⟩ | q | q
  · exact ⟨by omega, fun _ => by omega, fun _ => by omega, fun _ => by omega⟩
  · exact ⟨by omega, fun _ => by omega, fun _ => by omega, fun _ => by omega⟩
  · have : M 102 20 ≤ 999999 := by rcases q3 with q3 | q3 <;> omega
    exact ⟨by omega, fun _ => by omega, fun _ => by omega, fun _ => by omega⟩
  · exact ⟨by omega, fun _ => by omega, fun _ => by omega, fun _ => by omega⟩
  · exact ⟨by omega, fun _ => by omega, fun _ => by omega, fun _ => by omega⟩
theorem r_sign {E : zE} {M : zM} {Q : Int → zM → Prop} {c : Int} (h1 : 0 ≤ M 102 19 ∧ M 102 19 ≤ 4) (h2 : M 102 19 = 3 → 0 ≤ M 102 20 ∧ M 102 20 ≤ 99) (hc : 0 ≤ c ∧ c ≤ 99) (hy : M 102 19 = 3 ∧ M 102 20 = c → zP E mX12_take [.inr (.inr 102)] M (fun _ M' => Q 1 M')) (hn : ¬ (M 102 19 = 3 ∧ M 102 20 = c) → Q 0 (wgM M 1)) : zP E mX12_sign [.inr (.inr 102), .inl c] M Q := by
  refine vcX12_sign _ ?_
  refine r_isSign h1 h2 hc ⟨ite01.1, fun q => hy (Classical.byContradiction (fun q2 => q (ite01.2.mpr q2))), fun q => r_wrong ⟨Or.inl rfl, hn (ite01.2.mp q)⟩⟩
theorem r_number {E : zE} {M : zM} {Q : Int → zM → Prop} {lo hi : Int} (h1 : 0 ≤ M 102 19 ∧ M 102 19 ≤ 4) (h2 : M 102 19 = 2 → 0 ≤ M 102 20 ∧ M 102 20 ≤ 999999) (hl : zR lo) (hh : zR hi) (hy : M 102 19 = 2 → lo ≤ M 102 20 ∧ M 102 20 ≤ hi → Q 1 M) (hn : M 102 19 = 2 → ¬ (lo ≤ M 102 20 ∧ M 102 20 ≤ hi) → Q 0 (wgM M 2)) (hk : M 102 19 ≠ 2 → Q 0 (wgM M 1)) : zP E mX12_number [.inr (.inr 102), .inl lo, .inl hi] M Q := by
  refine vcX12_number _ _ ?_
  have zw : M 102 19 = 2 → zR (M 102 20) := fun q => by have := h2 q; unfold zR; omega
  refine ⟨by unfold zR; omega, fun q => ⟨⟨zw q, hl⟩, fun q2 => r_wrong ⟨zRd rfl, fun _ => hn q (fun q3 => by omega), fun q3 => absurd rfl q3⟩, fun q2 => ⟨⟨zw q, hh⟩, fun q3 => hy q ⟨q2, q3⟩, fun q3 => r_wrong ⟨zRd rfl, fun _ => hn q (fun q4 => by omega), fun q4 => absurd rfl q4⟩⟩⟩, fun q => r_wrong ⟨Or.inl rfl, hk q⟩⟩
/-- the class judges a number as the reference does -/
theorem jdg_k {b : Nat} {t : Nat → Int} {n : Nat} {R : Int × zM} {M V : zM} {k a : Nat} (h : tkS b t n R M V k a) {lo hi : Int} (hh : hi ≤ 99999) : (M 102 19 = 2 → lo ≤ M 102 20 ∧ M 102 20 ≤ hi → jdg (nxM V t n a) lo hi = 0 ∧ nxM V t n a 2 6 = M 102 20 ∧ lxK t n a = 16) ∧ (M 102 19 = 2 → ¬ (lo ≤ M 102 20 ∧ M 102 20 ≤ hi) → jdg (nxM V t n a) lo hi = 2) ∧ (M 102 19 ≠ 2 → jdg (nxM V t n a) lo hi = 1) := by
  obtain ⟨e1, e2, e3, e4, e5⟩ := nxM_r V t n a
  have c := tkS_k h
  unfold jdg
  rw [e2]
  refine ⟨fun q q2 => ?_, fun q q2 => ?_, fun q => ?_⟩
  · have k16 : lxK t n a = 16 := by omega
    rcases c with q4 | q4 | ⟨q4, q5, q6, q7⟩ | q4 | q4
    · omega
    · omega
    · have en : nxM V t n a 2 6 = M 102 20 := by
        rw [(e5 k16).1]
        rcases q6 with q6 | q6 <;> omega
      rw [if_pos k16, en, if_pos q2]
      exact ⟨rfl, rfl, k16⟩
    · omega
    · omega
  · have k16 : lxK t n a = 16 := by omega
    rcases c with q4 | q4 | ⟨q4, q5, q6, q7⟩ | q4 | q4
    · omega
    · omega
    · rw [if_pos k16, (e5 k16).1, if_neg (fun q8 => by rcases q6 with q6 | q6 <;> omega)]
    · omega
    · omega
  · rw [if_neg (by omega)]
