/-! the reference's methods without loops -/
theorem r_thrown {E : zE} {M : zM} {Q : Int → zM → Prop} (h : Q (M 102 2) M) : zP E mX12_thrown [.inr (.inr 102)] M Q := vcX12_thrown h
theorem r_isPost {E : zE} {M : zM} {Q : Int → zM → Prop} {p : Int} (h1 : zR p) (h2 : 0 ≤ M 102 4 ∧ M 102 4 ≤ 8) (h : Q (if 0 ≤ p ∧ p < M 102 4 then 1 else 0) M) : zP E mX12_isPost [.inr (.inr 102), .inl p] M Q := by
  refine vcX12_isPost _ ?_
  grind [zR]
theorem r_fault {E : zE} {M : zM} {Q : Int → zM → Prop} {w : Int} (h1 : zR w) (h : Q (if w = 0 then M 102 15 else if w = 1 then M 102 16 else -1) (zup M 102 2 0)) : zP E mX12_fault [.inr (.inr 102), .inl w] M Q := by
  refine vcX12_fault _ ?_
  intro M1 hM1
  subst hM1
  simp [zup_r]
  grind [zR]
theorem r_isCell {E : zE} {M : zM} {Q : Int → zM → Prop} {c : Int} (h1 : zR c) (h2 : zR (M 102 51 * M 102 52)) (h : Q (if 0 ≤ c ∧ c < M 102 51 * M 102 52 then 1 else 0) M) : zP E mX12_isCell [.inr (.inr 102), .inl c] M Q := by
  refine vcX12_isCell _ ?_
  grind [zR]
theorem r_isWorld {E : zE} {M : zM} {Q : Int → zM → Prop} {c : Int} (h1 : zR c) (h2 : 0 ≤ M 102 58 ∧ M 102 58 ≤ 3) (h : Q (if 0 ≤ c ∧ c < M 102 58 then 1 else 0) M) : zP E mX12_isWorld [.inr (.inr 102), .inl c] M Q := by
  refine vcX12_isWorld _ ?_
  grind [zR]
theorem r_isPlace {E : zE} {M : zM} {Q : Int → zM → Prop} {c : Int} (h1 : zR c) (h2 : 0 ≤ M 102 69 ∧ M 102 69 ≤ 8) (h : Q (if 0 ≤ c ∧ c < M 102 69 then 1 else 0) M) : zP E mX12_isPlace [.inr (.inr 102), .inl c] M Q := by
  refine vcX12_isPlace _ ?_
  grind [zR]
theorem r_hasWork {E : zE} {M : zM} {Q : Int → zM → Prop} {c t : Int} (h1 : 0 ≤ c ∧ c < 64) (ht : t = 0 ∨ t = 1) (hb : ∀ i, (M 130 i = 0 ∨ M 130 i = 1) ∧ (M 131 i = 0 ∨ M 131 i = 1)) (h : Q (if t = 0 then M 130 c.toNat else M 131 c.toNat) M) : zP E mX12_hasWork [.inr (.inr 102), .inl c, .inl t] M Q := by
  refine vcX12_hasWork _ _ ?_
  have := hb c.toNat
  grind [zR]
theorem r_mayWork {E : zE} {M : zM} {Q : Int → zM → Prop} {c t : Int} (h1 : 0 ≤ c ∧ c < 64) (ht : t = 0 ∨ t = 1) (hb : ∀ i, (M 130 i = 0 ∨ M 130 i = 1) ∧ (M 131 i = 0 ∨ M 131 i = 1)) (hh : ∀ i, 0 ≤ M 129 i ∧ M 129 i ≤ 99) (hw : 0 ≤ M 102 57 ∧ M 102 57 ≤ 4)
    (h : Q (if (if t = 0 then M 130 c.toNat else M 131 c.toNat) = 0 ∧ M 129 c.toNat = 0 ∧ M 102 57 < 4 then 1 else 0) M) : zP E mX12_mayWork [.inr (.inr 102), .inl c, .inl t] M Q := by
  refine vcX12_mayWork _ _ ?_
  refine r_hasWork h1 ht hb ?_
  have := hb c.toNat
  have := hh c.toNat
  grind [zR]
theorem r_setWork {E : zE} {M : zM} {Q : Int → zM → Prop} {c t o : Int} (h1 : 0 ≤ c ∧ c < 64) (ht : t = 0 ∨ t = 1) (ho : o = 0 ∨ o = 1)
    (h : Q 0 (zup (if t = 0 then zup M 130 c.toNat o else zup M 131 c.toNat o) 102 57 (M 102 57 + (if o = 0 then -1 else 1)))) : zP E mX12_setWork [.inr (.inr 102), .inl c, .inl t, .inl o] M Q := by
  refine vcX12_setWork _ _ _ ?_
  rcases ht with rfl | rfl <;> rcases ho with rfl | rfl <;> simp [zup_r] at h ⊢ <;> grind [zR]
theorem r_wind {E : zE} {M : zM} {Q : Int → zM → Prop} {a b c : Int} (h1 : zR a) (h2 : zR b) (h3 : zR c)
    (h : if (0 ≤ a ∧ a ≤ 123) ∧ (0 ≤ b ∧ b ≤ 7) ∧ (0 ≤ c ∧ c ≤ 7) then Q 1 (zup (zup (zup M 102 2 0) 163 a.toNat b) 164 a.toNat c) else Q 0 (zup M 102 2 0)) : zP E mX12_wind [.inr (.inr 102), .inl a, .inl b, .inl c] M Q := by
  refine vcX12_wind _ _ _ ?_
  intro M1 hM1
  subst hM1
  refine r_isIn h1 (zRd rfl) (zRd rfl) ?_
  refine ⟨by grind [zR], fun _ => by grind, fun _ => ?_⟩
  refine r_isIn h2 (zRd rfl) (zRd rfl) ?_
  refine ⟨by grind [zR], fun _ => by grind, fun _ => ?_⟩
  refine r_isIn h3 (zRd rfl) (zRd rfl) ?_
  grind [zR]
theorem r_stepX {E : zE} {M : zM} {Q : Int → zM → Prop} {d : Int} (h1 : zR d) (h : Q (if d = 0 ∨ d = 1 ∨ d = 7 then 1 else if d = 2 ∨ d = 6 then 0 else -1) M) : zP E mX12_stepX [.inl d] M Q := by
  refine vcX12_stepX _ ?_
  grind [zR]
theorem r_stepY {E : zE} {M : zM} {Q : Int → zM → Prop} {d : Int} (h1 : zR d) (h : Q (if 1 ≤ d ∧ d ≤ 3 then 1 else if d = 0 ∨ d = 4 then 0 else -1) M) : zP E mX12_stepY [.inl d] M Q := by
  refine vcX12_stepY _ ?_
  grind [zR]
theorem r_throwsOut {E : zE} {M : zM} {Q : Int → zM → Prop} {w : Int} (h : Q 0 (zup M 102 2 w)) : zP E mX12_throwsOut [.inr (.inr 102), .inl w] M Q := by
  refine vcX12_throwsOut _ ?_
  intro M1 hM1
  subst hM1
  exact h
theorem r_count {E : zE} {M : zM} {Q : Int → zM → Prop} {w : Int} (h1 : zR w)
    (h : Q (if w = 0 then M 102 3 else if w = 1 then M 102 4 else if w = 2 then M 102 6 else if w = 3 then M 102 32 else if w = 4 then M 102 34 else if w = 5 then M 102 37 else if w = 6 then M 102 58 else if w = 7 then M 102 69 else if w = 8 then M 102 76 else if w = 9 then M 102 96 else if w = 10 then M 102 57 else -1) (zup M 102 2 0)) : zP E mX12_count [.inr (.inr 102), .inl w] M Q := by
  refine vcX12_count _ ?_
  intro M1 hM1
  subst hM1
  simp [zup_r]
  refine ⟨h1, ?_, ?_, ?_, ?_, ?_, ?_, ?_, ?_, ?_, ?_, ?_, ?_⟩ <;> intro hw <;> first | (subst hw; simpa using h) | grind (splits := 20)
