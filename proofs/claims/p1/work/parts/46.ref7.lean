/-! the reference: land, feed -/
theorem r_land {E : zE} {M : zM} {Q : Int → zM → Prop} {w l : Int} (h1 : zR w) (h2 : zR l)
    (h : if (2 ≤ w ∧ w ≤ 8) ∧ (2 ≤ l ∧ l ≤ 8) then
      ∀ M', (∀ x, x ≠ 102 → x ≠ 128 → x ≠ 129 → x ≠ 130 → x ≠ 131 → M' x = M x) →
        (∀ j, M' 102 j = if j = 2 ∨ j = 57 ∨ j = 58 ∨ j = 69 ∨ j = 76 ∨ j = 96 then 0 else if j = 51 then w else if j = 52 then l else M 102 j) →
        (∀ i : Nat, M' 128 i = if i < 64 then 0 else M 128 i) → (∀ i : Nat, M' 129 i = if i < 64 then 0 else M 129 i) → (∀ i : Nat, M' 130 i = if i < 64 then 0 else M 130 i) → (∀ i : Nat, M' 131 i = if i < 64 then 0 else M 131 i) → Q 1 M'
      else Q 0 (zup M 102 2 0)) : zP E mX12_land [.inr (.inr 102), .inl w, .inl l] M Q := by
  refine vcX12_land w l (fun n l3 M' => 0 ≤ l3 ∧ l3 ≤ 64 ∧ n = 100 - l3.toNat ∧ ((2 ≤ w ∧ w ≤ 8) ∧ (2 ≤ l ∧ l ≤ 8)) ∧ (∀ x, x ≠ 102 → x ≠ 128 → x ≠ 129 → x ≠ 130 → x ≠ 131 → M' x = M x) ∧
        (∀ j, M' 102 j = if j = 2 then 0 else if j = 51 then w else if j = 52 then l else M 102 j) ∧
        (∀ i : Nat, M' 128 i = if i < l3.toNat then 0 else M 128 i) ∧ (∀ i : Nat, M' 129 i = if i < l3.toNat then 0 else M 129 i) ∧ (∀ i : Nat, M' 130 i = if i < l3.toNat then 0 else M 130 i) ∧ (∀ i : Nat, M' 131 i = if i < l3.toNat then 0 else M 131 i)) ?_ ?_
  · intro M1 hM1
    refine r_isIn h1 (zRd rfl) (zRd rfl) ?_
    refine ⟨by grind [zR], fun _ => by grind, fun _ => ?_⟩
    refine r_isIn h2 (zRd rfl) (zRd rfl) ?_
    refine ⟨by grind [zR], fun _ => ?_, fun _ => by grind⟩
    rintro M6 rfl
    rintro M7 rfl
    subst hM1
    refine ⟨100, by omega, by omega, rfl, by grind, fun x a1 _ _ _ _ => ?_, fun j => ?_, fun i => ?_, fun i => ?_, fun i => ?_, fun i => ?_⟩
    · rw [zup_ne _ _ _ a1, zup_ne _ _ _ a1, zup_ne _ _ _ a1]
    · simp [zup_r]
      grind
    · simp [zup_r]
    · simp [zup_r]
    · simp [zup_r]
    · simp [zup_r]
  · rintro n l3 M' ⟨a1, a2, rfl, a3, a4, a5, a6, a7, a8, a9⟩
    refine ⟨by grind [zR], fun hc => ?_, fun hc => ⟨by omega, ?_⟩⟩
    · rw [if_pos a3] at h
      have hl : l3.toNat = 64 := by omega
      rw [hl] at a6 a7 a8 a9
      rintro M8 rfl
      rintro M9 rfl
      rintro M10 rfl
      rintro M11 rfl
      rintro M12 rfl
      refine h _ (fun x b1 b2 b3 b4 b5 => ?_) (fun j => ?_) (fun i => ?_) (fun i => ?_) (fun i => ?_) (fun i => ?_)
      · rw [zup_ne _ _ _ b1, zup_ne _ _ _ b1, zup_ne _ _ _ b1, zup_ne _ _ _ b1, zup_ne _ _ _ b1]
        exact a4 x b1 b2 b3 b4 b5
      · simp [zup_r]
        have := a5 j
        grind
      · simp [zup_r, a6]
      · simp [zup_r, a7]
      · simp [zup_r, a8]
      · simp [zup_r, a9]
    · have hs : (l3 + 1).toNat = l3.toNat + 1 := by omega
      rintro M13 rfl
      refine ⟨by omega, ?_⟩
      rintro M14 rfl
      refine ⟨by omega, ?_⟩
      rintro M15 rfl
      refine ⟨by omega, ?_⟩
      rintro M16 rfl
      refine ⟨_, (by omega : 100 - (l3 + 1).toNat < _), by omega, by omega, rfl, a3, fun x b1 b2 b3 b4 b5 => ?_, fun j => ?_, fun i => ?_, fun i => ?_, fun i => ?_, fun i => ?_⟩
      · rw [zup_ne _ _ _ b5, zup_ne _ _ _ b4, zup_ne _ _ _ b3, zup_ne _ _ _ b2]
        exact a4 x b1 b2 b3 b4 b5
      · simp [zup_r, a5]
      · simp [zup_r, a6, hs]
        grind
      · simp [zup_r, a7, hs]
        grind
      · simp [zup_r, a8, hs]
        grind
      · simp [zup_r, a9, hs]
        grind
/-- the k-th of the twenty bytes -/
def fbyte (a b c d e k : Int) : Int := zand (zshr (if k < 4 then a else if k < 8 then b else if k < 12 then c else if k < 16 then d else e) (24 - 8 * Int.tmod k 4)) 255
theorem r_feed {E : zE} {M : zM} {Q : Int → zM → Prop} {a b c d e : Int} (hn : 0 ≤ M 102 1 ∧ M 102 1 ≤ 500)
    (h : if M 102 1 + 20 ≤ 500 then
      ∀ M', (∀ x, x ≠ 103 → M' x = zup (zup M 102 2 0) 102 1 (M 102 1 + 20) x) → (∀ i : Nat, M' 103 i = if (M 102 1).toNat ≤ i ∧ i < (M 102 1).toNat + 20 then fbyte a b c d e (i - M 102 1) else M 103 i) → Q (M 102 1 + 20) M'
      else Q (-1) (zup M 102 2 0)) : zP E mX12_feed [.inr (.inr 102), .inl a, .inl b, .inl c, .inl d, .inl e] M Q := by
  refine vcX12_feed a b c d e (fun n l1 l2 l3 l4 l5 l6 M' => (l1 = a ∧ l2 = b ∧ l3 = c ∧ l4 = d ∧ l5 = e) ∧ 0 ≤ l6 ∧ l6 ≤ 20 ∧ n = 100 - l6.toNat ∧ M 102 1 + 20 ≤ 500 ∧ (∀ x, x ≠ 103 → M' x = zup M 102 2 0 x) ∧ (∀ i : Nat, M' 103 i = if (M 102 1).toNat ≤ i ∧ i < (M 102 1).toNat + l6.toNat then fbyte a b c d e (i - M 102 1) else M 103 i)) ?_ ?_
  · intro M1 hM1
    have e1 : M1 102 1 = M 102 1 := by subst hM1; simp [zup_r]
    rw [e1]
    refine ⟨by grind [zR], fun hc => ?_, fun hc => ?_⟩
    · refine ⟨100, ⟨rfl, rfl, rfl, rfl, rfl⟩, by omega, by omega, rfl, hc, fun x hx => by rw [hM1], fun i => ?_⟩
      rw [if_neg (by omega), hM1, zup_ne _ _ _ (by decide)]
    · rw [if_neg (by omega)] at h
      rw [hM1]
      exact h
  · rintro n l1 l2 l3 l4 l5 l6 M' ⟨⟨rfl, rfl, rfl, rfl, rfl⟩, a1, a2, rfl, a3, a4, a5⟩
    have e1 : M' 102 1 = M 102 1 := by rw [a4 _ (by decide)]; simp [zup_r]
    rw [e1]
    have hz : zR l6 := by grind [zR]
    refine ⟨hz, fun hc => ?_, fun hc => ?_⟩
    · rw [if_pos a3] at h
      rintro M2 rfl
      rw [show zup M' 102 1 (M 102 1 + 20) 102 1 = M 102 1 + 20 by simp [zup_r]]
      refine h _ (fun x hx => ?_) (fun i => ?_)
      · by_cases hx2 : x = 102
        · subst hx2
          rw [zup_eq, zup_eq, a4 _ (by decide)]
        · rw [zup_ne _ _ _ hx2, zup_ne _ _ _ hx2, a4 x hx]
      · rw [zup_ne _ _ _ (by decide), a5, show l6.toNat = 20 by omega]
    · have hidx : 0 ≤ M 102 1 + l6 ∧ M 102 1 + l6 < 500 := by omega
      have step : ∀ v : Int, v = fbyte l1 l2 l3 l4 l5 l6 → ∀ M3, M3 = zup M' 103 (M 102 1 + l6).toNat v → ∃ n', n' < 100 - l6.toNat ∧ ((l1 = l1 ∧ l2 = l2 ∧ l3 = l3 ∧ l4 = l4 ∧ l5 = l5) ∧ 0 ≤ l6 + 1 ∧ l6 + 1 ≤ 20 ∧ n' = 100 - (l6 + 1).toNat ∧ M 102 1 + 20 ≤ 500 ∧ (∀ x, x ≠ 103 → M3 x = zup M 102 2 0 x) ∧ (∀ i : Nat, M3 103 i = if (M 102 1).toNat ≤ i ∧ i < (M 102 1).toNat + (l6 + 1).toNat then fbyte l1 l2 l3 l4 l5 (i - M 102 1) else M 103 i)) := by

        rintro v rfl M3 rfl
        refine ⟨_, (by omega : 100 - (l6 + 1).toNat < _), ⟨rfl, rfl, rfl, rfl, rfl⟩, by omega, by omega, rfl, a3, fun x hx => ?_, fun i => ?_⟩
        · rw [zup_ne _ _ _ hx]
          exact a4 x hx
        · rw [zup_r, if_pos rfl, a5 i]
          by_cases hi : i = (M 102 1 + l6).toNat
          · rw [if_pos hi, if_pos (by omega), show (i : Int) - M 102 1 = l6 by omega]
          · rw [if_neg hi]
            by_cases hi2 : (M 102 1).toNat ≤ i ∧ i < (M 102 1).toNat + l6.toNat
            · rw [if_pos hi2, if_pos (by omega)]
            · rw [if_neg hi2, if_neg (by omega)]
      refine ⟨hz, fun c4 => ⟨hz, fun c8 => ⟨hz, fun c12 => ⟨hz, fun c16 => ⟨hz, hidx, step _ ?_⟩, fun c16 => ⟨hz, hidx, step _ ?_⟩⟩, fun c12 => ⟨hz, hidx, step _ ?_⟩⟩, fun c8 => ⟨hz, hidx, step _ ?_⟩⟩, fun c4 => ⟨hz, hidx, step _ ?_⟩⟩
      · unfold fbyte; rw [if_neg (by omega), if_neg (by omega), if_neg (by omega), if_neg (by omega)]
      · unfold fbyte; rw [if_neg (by omega), if_neg (by omega), if_neg (by omega), if_pos (by omega)]
      · unfold fbyte; rw [if_neg (by omega), if_neg (by omega), if_pos (by omega)]
      · unfold fbyte; rw [if_neg (by omega), if_pos (by omega)]
      · unfold fbyte; rw [if_pos (by omega)]
