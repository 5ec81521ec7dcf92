/-! the reference: world, town, shelter, road, look -/
theorem r_world {E : zE} {M : zM} {Q : Int → zM → Prop} {s v r l w : Int} (h1 : zR s) (h2 : zR v) (h3 : zR r) (h4 : zR l) (h5 : zR w) (hw : zR (M 102 51 * M 102 52)) (hn : 0 ≤ M 102 58 ∧ M 102 58 ≤ 3)
    (h : if M 102 58 < 3 ∧ (0 ≤ s ∧ s ≤ 99) ∧ (0 ≤ v ∧ v < M 102 51 * M 102 52) ∧ (1 ≤ r ∧ r ≤ 99) ∧ (1 ≤ l ∧ l ≤ 12) ∧ (1 ≤ w ∧ w ≤ 99) then
      Q (M 102 58) (zup (zup (zup (zup (zup (zup (zup M 102 2 0) 132 (M 102 58).toNat s) 133 (M 102 58).toNat v) 134 (M 102 58).toNat r) 135 (M 102 58).toNat l) 136 (M 102 58).toNat w) 102 58 (M 102 58 + 1)) else Q (-1) (zup M 102 2 0)) : zP E mX12_world [.inr (.inr 102), .inl s, .inl v, .inl r, .inl l, .inl w] M Q := by
  refine vcX12_world _ _ _ _ _ ?_
  intro M1 hM1
  have e1 : M1 102 51 = M 102 51 := by subst hM1; simp [zup_r]
  have e2 : M1 102 52 = M 102 52 := by subst hM1; simp [zup_r]
  have e3 : M1 102 58 = M 102 58 := by subst hM1; simp [zup_r]
  rw [e3]
  refine ⟨by grind [zR], fun _ => by grind, fun _ => ?_⟩
  refine r_isHour h1 ?_
  refine ⟨by grind [zR], fun _ => by grind, fun _ => ?_⟩
  refine r_isCell h2 (by rw [e1, e2]; exact hw) ?_
  rw [e1, e2]
  generalize M 102 51 * M 102 52 = WT at *
  refine ⟨by grind [zR], fun _ => by grind, fun _ => ?_⟩
  refine r_isIn h3 (zRd rfl) (zRd rfl) ?_
  refine ⟨by grind [zR], fun _ => by grind, fun _ => ?_⟩
  refine r_isIn h4 (zRd rfl) (zRd rfl) ?_
  refine ⟨by grind [zR], fun _ => by grind, fun _ => ?_⟩
  refine r_isIn h5 (zRd rfl) (zRd rfl) ?_
  refine ⟨by grind [zR], fun _ => ?_, fun _ => by grind⟩
  rw [if_pos (by grind)] at h
  have hb : 0 ≤ M 102 58 ∧ M 102 58 < 3 := by grind
  simp [zup_r, e3]
  subst hM1
  simpa [hb] using h
theorem r_town {E : zE} {M : zM} {Q : Int → zM → Prop} {c n t l : Int} (h1 : zR c) (h2 : zR n) (h3 : zR t) (h4 : zR l) (hw : zR (M 102 51 * M 102 52)) (hn : 0 ≤ M 102 69 ∧ M 102 69 ≤ 8)
    (h : if M 102 69 < 8 ∧ (0 ≤ c ∧ c < M 102 51 * M 102 52) ∧ (1 ≤ n ∧ n ≤ 999) ∧ (1 ≤ t ∧ t ≤ 4) ∧ (0 ≤ l ∧ l ≤ 5) then
      Q (M 102 69) (zup (zup (zup (zup (zup (zup (zup M 102 2 0) 142 (M 102 69).toNat 1) 143 (M 102 69).toNat c) 144 (M 102 69).toNat n) 145 (M 102 69).toNat t) 146 (M 102 69).toNat l) 102 69 (M 102 69 + 1)) else Q (-1) (zup M 102 2 0)) : zP E mX12_town [.inr (.inr 102), .inl c, .inl n, .inl t, .inl l] M Q := by
  refine vcX12_town _ _ _ _ ?_
  intro M1 hM1
  have e1 : M1 102 51 = M 102 51 := by subst hM1; simp [zup_r]
  have e2 : M1 102 52 = M 102 52 := by subst hM1; simp [zup_r]
  have e3 : M1 102 69 = M 102 69 := by subst hM1; simp [zup_r]
  rw [e3]
  refine ⟨by grind [zR], fun _ => by grind, fun _ => ?_⟩
  refine r_isCell h1 (by rw [e1, e2]; exact hw) ?_
  rw [e1, e2]
  generalize M 102 51 * M 102 52 = WT at *
  refine ⟨by grind [zR], fun _ => by grind, fun _ => ?_⟩
  refine r_isIn h2 (zRd rfl) (zRd rfl) ?_
  refine ⟨by grind [zR], fun _ => by grind, fun _ => ?_⟩
  refine r_isIn h3 (zRd rfl) (zRd rfl) ?_
  refine ⟨by grind [zR], fun _ => by grind, fun _ => ?_⟩
  refine r_isIn h4 (zRd rfl) (zRd rfl) ?_
  refine ⟨by grind [zR], fun _ => ?_, fun _ => by grind⟩
  rw [if_pos (by grind)] at h
  have hb : 0 ≤ M 102 69 ∧ M 102 69 < 8 := by grind
  simp [zup_r, e3]
  subst hM1
  simpa [hb] using h
theorem r_shelter {E : zE} {M : zM} {Q : Int → zM → Prop} {n : Int} (h1 : zR n) (hn : 0 ≤ M 102 69 ∧ M 102 69 ≤ 8)
    (h : if M 102 69 < 8 ∧ (0 ≤ n ∧ n ≤ 9999) then
      Q (M 102 69) (zup (zup (zup (zup M 102 2 0) 142 (M 102 69).toNat 0) 147 (M 102 69).toNat n) 102 69 (M 102 69 + 1)) else Q (-1) (zup M 102 2 0)) : zP E mX12_shelter [.inr (.inr 102), .inl n] M Q := by
  refine vcX12_shelter _ ?_
  intro M1 hM1
  have e3 : M1 102 69 = M 102 69 := by subst hM1; simp [zup_r]
  rw [e3]
  refine ⟨by grind [zR], fun _ => by grind, fun _ => ?_⟩
  refine r_isIn h1 (zRd rfl) (zRd rfl) ?_
  refine ⟨by grind [zR], fun _ => ?_, fun _ => by grind⟩
  rw [if_pos (by grind)] at h
  have hb : 0 ≤ M 102 69 ∧ M 102 69 < 8 := by grind
  simp [zup_r, e3]
  subst hM1
  simpa [hb] using h
theorem r_road {E : zE} {M : zM} {Q : Int → zM → Prop} {a b n cp e c : Int} (h1 : zR a) (h2 : zR b) (h3 : zR n) (h4 : zR cp) (h5 : zR e) (h6 : zR c) (hw : zR (M 102 51 * M 102 52)) (hn : 0 ≤ M 102 69 ∧ M 102 69 ≤ 8) (hr : 0 ≤ M 102 76 ∧ M 102 76 ≤ 14)
    (h : if M 102 76 < 14 ∧ (0 ≤ a ∧ a < M 102 69) ∧ (0 ≤ b ∧ b < M 102 69) ∧ a ≠ b ∧ (1 ≤ n ∧ n ≤ 5) ∧ (1 ≤ cp ∧ cp ≤ 999) ∧ (1 ≤ e ∧ e ≤ 6) ∧ (c = -1 ∨ (0 ≤ c ∧ c < M 102 51 * M 102 52)) then
      Q (M 102 76) (zup (zup (zup (zup (zup (zup (zup (zup M 102 2 0) 148 (M 102 76).toNat a) 149 (M 102 76).toNat b) 150 (M 102 76).toNat n) 151 (M 102 76).toNat cp) 152 (M 102 76).toNat e) 153 (M 102 76).toNat c) 102 76 (M 102 76 + 1)) else Q (-1) (zup M 102 2 0)) : zP E mX12_road [.inr (.inr 102), .inl a, .inl b, .inl n, .inl cp, .inl e, .inl c] M Q := by
  refine vcX12_road _ _ _ _ _ _ ?_
  intro M1 hM1
  have e1 : M1 102 51 = M 102 51 := by subst hM1; simp [zup_r]
  have e2 : M1 102 52 = M 102 52 := by subst hM1; simp [zup_r]
  have e3 : M1 102 69 = M 102 69 := by subst hM1; simp [zup_r]
  have e4 : M1 102 76 = M 102 76 := by subst hM1; simp [zup_r]
  rw [e4]
  refine ⟨by grind [zR], fun _ => by grind, fun _ => ?_⟩
  refine r_isPlace h1 (by rw [e3]; exact hn) ?_
  rw [e3]
  refine ⟨by grind [zR], fun _ => by grind, fun _ => ?_⟩
  refine r_isPlace h2 (by rw [e3]; exact hn) ?_
  rw [e3]
  refine ⟨by grind [zR], fun _ => by grind, fun _ => ?_⟩
  refine ⟨by grind [zR], fun _ => by grind, fun _ => ?_⟩
  refine r_isIn h3 (zRd rfl) (zRd rfl) ?_
  refine ⟨by grind [zR], fun _ => by grind, fun _ => ?_⟩
  refine r_isIn h4 (zRd rfl) (zRd rfl) ?_
  refine ⟨by grind [zR], fun _ => by grind, fun _ => ?_⟩
  refine r_isIn h5 (zRd rfl) (zRd rfl) ?_
  refine ⟨by grind [zR], fun _ => by grind, fun _ => ?_⟩
  have hb : 0 ≤ M 102 76 ∧ M 102 76 < 14 := by grind
  refine ⟨h6, fun hc => ?_, fun hc => ?_⟩
  · rw [if_pos (by grind)] at h
    simp [zup_r, e4]
    subst hM1
    simpa [hb] using h
  · refine r_isCell h6 (by rw [e1, e2]; exact hw) ?_
    rw [e1, e2]
    generalize M 102 51 * M 102 52 = WT at *
    refine ⟨by grind [zR], fun _ => ?_, fun _ => by grind⟩
    rw [if_pos (by grind (splits := 24))] at h
    simp [zup_r, e4]
    subst hM1
    simpa [hb] using h
theorem r_look {E : zE} {M : zM} {Q : Int → zM → Prop} {c w : Int} (h1 : zR c) (h2 : zR w) (hw : zR (M 102 51 * M 102 52)) (hw2 : M 102 51 * M 102 52 ≤ 64) (hb : ∀ i, (M 130 i = 0 ∨ M 130 i = 1) ∧ (M 131 i = 0 ∨ M 131 i = 1))
    (h : if ¬ (0 ≤ c ∧ c < M 102 51 * M 102 52) then Q 0 (zup (zup M 102 2 0) 102 2 1) else if w = 0 then Q (M 128 c.toNat) (zup M 102 2 0) else if w = 1 then Q (M 129 c.toNat) (zup M 102 2 0) else if w = 2 then Q (M 130 c.toNat + (if M 131 c.toNat = 1 then 2 else 0)) (zup M 102 2 0) else Q 0 (zup (zup M 102 2 0) 102 2 2)) : zP E mX12_look [.inr (.inr 102), .inl c, .inl w] M Q := by
  refine vcX12_look _ _ ?_
  intro M1 hM1
  have e1 : M1 102 51 = M 102 51 := by subst hM1; simp [zup_r]
  have e2 : M1 102 52 = M 102 52 := by subst hM1; simp [zup_r]
  have e3 : M1 130 = M 130 := by subst hM1; exact zup_ne _ _ _ (by decide)
  have e4 : M1 131 = M 131 := by subst hM1; exact zup_ne _ _ _ (by decide)
  have e5 : M1 128 = M 128 := by subst hM1; exact zup_ne _ _ _ (by decide)
  have e6 : M1 129 = M 129 := by subst hM1; exact zup_ne _ _ _ (by decide)
  refine r_isCell h1 (by rw [e1, e2]; exact hw) ?_
  rw [e1, e2, e3, e4, e5, e6]
  generalize M 102 51 * M 102 52 = WT at *
  have hbc := hb c.toNat
  refine ⟨by grind [zR], fun hc => ?_, fun hc => ?_⟩
  · have hA : 0 ≤ c ∧ c < WT := by grind
    have hc2 : 0 ≤ c ∧ c < 64 := by grind
    rw [if_neg (by simpa using hA)] at h
    refine ⟨h2, fun w0 => ⟨h2, fun w1 => ⟨h2, fun w2 => ?_, fun w2 => ?_⟩, fun w1 => ⟨hc2, ?_⟩⟩, fun w0 => ⟨hc2, ?_⟩⟩
    · rw [if_neg w0, if_neg w1, if_neg w2] at h
      refine r_throwsOut ?_
      rw [hM1]
      exact h
    · rw [if_neg w0, if_neg w1, if_pos w2] at h
      rw [← hM1] at h
      grind [zR]
    · rw [if_neg w0, if_pos w1, ← hM1] at h
      exact h
    · rw [if_pos w0, ← hM1] at h
      exact h
  · rw [if_pos (by grind)] at h
    refine r_throwsOut ?_
    rw [hM1]
    exact h
