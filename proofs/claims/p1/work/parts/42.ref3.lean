/-! the reference's public methods without loops -/
theorem r_read {E : zE} {M : zM} {Q : Int → zM → Prop} {p hr v g : Int} (h1 : zR p) (h2 : zR hr) (h3 : zR v) (hg : g = 0 ∨ g = 1) (hn : 0 ≤ M 102 3 ∧ M 102 3 ≤ 99) (hp : 0 ≤ M 102 4 ∧ M 102 4 ≤ 8) (hrd : 0 ≤ M 102 6 ∧ M 102 6 ≤ 400)
    (h : if (0 ≤ p ∧ p < M 102 4) ∧ (0 ≤ hr ∧ hr ≤ M 102 3) ∧ (g = 1 ∨ (-9999 ≤ v ∧ v ≤ 9999)) ∧ M 102 6 < 400 then
      Q (M 102 6 + 1) (zup (zup (zup (zup (zup (zup (zup M 102 2 0) 105 (M 102 6).toNat p) 106 (M 102 6).toNat hr) 107 (M 102 6).toNat (if g = 1 then 0 else v)) 109 (M 102 6).toNat g) 108 (M 102 6).toNat (M 102 3)) 102 6 (M 102 6 + 1)) else Q (-1) (zup M 102 2 0)) : zP E mX12_read [.inr (.inr 102), .inl p, .inl hr, .inl v, .inl g] M Q := by
  refine vcX12_read _ _ _ _ ?_
  intro M1 hM1
  have e1 : M1 102 4 = M 102 4 := by subst hM1; simp [zup_r]
  have e2 : M1 102 3 = M 102 3 := by subst hM1; simp [zup_r]
  have e3 : M1 102 6 = M 102 6 := by subst hM1; simp [zup_r]
  refine r_isPost h1 (by rw [e1]; exact hp) ?_
  refine ⟨by grind [zR], fun _ => by grind, fun _ => ?_⟩
  refine r_isIn h2 (zRd rfl) (by rw [e2]; grind [zR]) ?_
  refine ⟨by grind [zR], fun _ => by grind, fun _ => ?_⟩
  rcases hg with rfl | rfl
  · refine ⟨zRd rfl, fun hc => absurd rfl hc, fun _ => ?_⟩
    refine r_isIn h3 (zRd rfl) (zRd rfl) ?_
    simp [zup_r, e1, e2, e3]
    grind [zR]
  · refine ⟨zRd rfl, fun _ => ?_, fun hc => absurd hc (by decide)⟩
    simp [zup_r, e1, e2, e3]
    grind [zR]
theorem r_ground {E : zE} {M : zM} {Q : Int → zM → Prop} {c hh n : Int} (h1 : zR c) (h2 : zR hh) (h3 : zR n) (hw : zR (M 102 51 * M 102 52)) (hw2 : M 102 51 * M 102 52 ≤ 64) (hb : ∀ i, (M 130 i = 0 ∨ M 130 i = 1) ∧ (M 131 i = 0 ∨ M 131 i = 1))
    (h : if (0 ≤ c ∧ c < M 102 51 * M 102 52) ∧ (0 ≤ hh ∧ hh ≤ 999) ∧ (0 ≤ n ∧ n ≤ 99) ∧ (n = 0 ∨ (M 130 c.toNat = 0 ∧ M 131 c.toNat = 0)) then
      Q 1 (zup (zup (zup M 102 2 0) 128 c.toNat hh) 129 c.toNat n) else Q 0 (zup M 102 2 0)) : zP E mX12_ground [.inr (.inr 102), .inl c, .inl hh, .inl n] M Q := by
  refine vcX12_ground _ _ _ ?_
  intro M1 hM1
  have e1 : M1 102 51 = M 102 51 := by subst hM1; simp [zup_r]
  have e2 : M1 102 52 = M 102 52 := by subst hM1; simp [zup_r]
  have e3 : M1 130 = M 130 := by subst hM1; exact zup_ne _ _ _ (by decide)
  have e4 : M1 131 = M 131 := by subst hM1; exact zup_ne _ _ _ (by decide)
  refine r_isCell h1 (by rw [e1, e2]; exact hw) ?_
  rw [e1, e2]
  generalize M 102 51 * M 102 52 = WT at *
  refine ⟨by grind [zR], fun _ => by grind, fun _ => ?_⟩
  refine r_isIn h2 (zRd rfl) (zRd rfl) ?_
  refine ⟨by grind [zR], fun _ => by grind, fun _ => ?_⟩
  refine r_isIn h3 (zRd rfl) (zRd rfl) ?_
  have := hb c.toNat
  have hc2 : 0 ≤ c ∧ c < 64 := by grind
  simp only [e3, e4]
  subst hM1
  clear e1 e2 e3 e4
  refine ⟨by grind [zR], fun _ => by grind, fun hc3 => ⟨h3, fun hn => ?_, fun hn => ?_⟩⟩
  · rw [if_pos (by grind)] at h
    exact ⟨hc2, fun M8 h8 => ⟨hc2, fun M9 h9 => by subst h8; subst h9; exact h⟩⟩
  · grind (splits := 16) [zR]
theorem r_work {E : zE} {M : zM} {Q : Int → zM → Prop} {c t o : Int} (h1 : zR c) (ht : t = 0 ∨ t = 1) (ho : o = 0 ∨ o = 1) (hw : zR (M 102 51 * M 102 52)) (hw2 : M 102 51 * M 102 52 ≤ 64) (hb : ∀ i, (M 130 i = 0 ∨ M 130 i = 1) ∧ (M 131 i = 0 ∨ M 131 i = 1)) (hh : ∀ i, 0 ≤ M 129 i ∧ M 129 i ≤ 99) (hk : 0 ≤ M 102 57 ∧ M 102 57 ≤ 4)
    (h : if (0 ≤ c ∧ c < M 102 51 * M 102 52) ∧ (if o = 1 then (if t = 0 then M 130 c.toNat else M 131 c.toNat) = 0 ∧ M 129 c.toNat = 0 ∧ M 102 57 < 4 else (if t = 0 then M 130 c.toNat else M 131 c.toNat) = 1) then
      Q 1 (zup (if t = 0 then zup (zup M 102 2 0) 130 c.toNat o else zup (zup M 102 2 0) 131 c.toNat o) 102 57 (M 102 57 + (if o = 0 then -1 else 1))) else Q 0 (zup M 102 2 0)) : zP E mX12_work [.inr (.inr 102), .inl c, .inl t, .inl o] M Q := by
  refine vcX12_work _ _ _ ?_
  intro M1 hM1
  have e1 : M1 102 51 = M 102 51 := by subst hM1; simp [zup_r]
  have e2 : M1 102 52 = M 102 52 := by subst hM1; simp [zup_r]
  have e3 : M1 130 = M 130 := by subst hM1; exact zup_ne _ _ _ (by decide)
  have e4 : M1 131 = M 131 := by subst hM1; exact zup_ne _ _ _ (by decide)
  have e5 : M1 129 = M 129 := by subst hM1; exact zup_ne _ _ _ (by decide)
  have e6 : M1 102 57 = M 102 57 := by subst hM1; simp [zup_r]
  refine r_isCell h1 (by rw [e1, e2]; exact hw) ?_
  rw [e1, e2]
  generalize M 102 51 * M 102 52 = WT at *
  refine ⟨by grind [zR], fun _ => by grind, fun hc => ?_⟩
  have hA : 0 ≤ c ∧ c < WT := by grind
  have hc2 : 0 ≤ c ∧ c < 64 := by grind
  have hbc := hb c.toNat
  refine ⟨by grind [zR], fun ho0 => ?_, fun ho0 => ?_⟩
  · have hoo : o = 0 := by grind
    subst hoo
    refine r_hasWork hc2 ht (by rw [e3, e4]; exact hb) ?_
    rw [e3, e4]
    refine ⟨by grind [zR], fun hz => ?_, fun hz => by grind⟩
    refine r_setWork hc2 ht (Or.inl rfl) ?_
    rw [e6, hM1]
    have hx : (if t = 0 then M 130 c.toNat else M 131 c.toNat) = 1 := by grind
    rw [if_pos ⟨hA, by rw [if_neg (by decide)]; exact hx⟩] at h
    exact h
  · have hoo : o = 1 := by grind
    subst hoo
    refine r_mayWork hc2 ht (by rw [e3, e4]; exact hb) (by rw [e5]; exact hh) (by rw [e6]; exact hk) ?_
    rw [e3, e4, e5, e6]
    refine ⟨by grind [zR], fun hz => ?_, fun hz => by grind⟩
    refine r_setWork hc2 ht (Or.inr rfl) ?_
    rw [e6, hM1]
    have hx : (if t = 0 then M 130 c.toNat else M 131 c.toNat) = 0 ∧ M 129 c.toNat = 0 ∧ M 102 57 < 4 := by grind
    rw [if_pos ⟨hA, by rw [if_pos rfl]; exact hx⟩] at h
    exact h
