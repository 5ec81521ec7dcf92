/-! the reader of rules: the lines that are done -/
def bkL (f : Nat) (W : zM) (L o : Nat) : Prop := ∀ l : Nat, l < L → (W (f + 4) l = W 120 l ∧ (1 ≤ W 120 l ∧ W 120 l ≤ 4)) ∧ ∃ (o0 c : Nat) (s : List Nat), W 121 l = (o0 : Int) ∧ W 122 l = (c : Int) ∧ o0 + c ≤ o ∧ chn W f o0 c s ∧ W (f + 5) l = ((o0 + c : Nat) : Int) ∧ (l = 0 → o0 = 0) ∧ ∀ l', l = l' + 1 → W (f + 5) l' = (o0 : Int)
theorem bkL_g {f : Nat} {W W' : zM} {L o o' : Nat} (h : bkL f W L o) (ho : o ≤ o') (g : agr W W' f o) (e : ∀ l : Nat, l < L → W' (f + 4) l = W (f + 4) l ∧ W' (f + 5) l = W (f + 5) l ∧ W' 120 l = W 120 l ∧ W' 121 l = W 121 l ∧ W' 122 l = W 122 l) : bkL f W' L o' := fun l hl => by
  obtain ⟨⟨a1, a2⟩, o0, c, s, b1, b2, b3, b4, b5, b6, b7⟩ := h l hl
  obtain ⟨e1, e2, e3, e4, e5⟩ := e l hl
  refine ⟨by rw [e1, e3]; exact ⟨a1, a2⟩, o0, c, s, by rw [e4]; exact b1, by rw [e5]; exact b2, by omega, chn_g g c b3 s b4, by rw [e2]; exact b5, b6, fun l' hl' => ?_⟩
  rw [(e l' (by omega)).2.1]
  exact b7 l' hl'
theorem bkL_ok {f : Nat} {W : zM} {L o : Nat} (h : bkL f W L o) (ho : o ≤ 64) (l : Nat) (hl : l < L) : (W (f + 4) l = W 120 l ∧ (1 ≤ W 120 l ∧ W 120 l ≤ 4)) ∧ (∃ st, lnOk W l st) ∧ bkRel W f l := by
  obtain ⟨a, o0, c, s, b1, b2, b3, b4, b5, b6, b7⟩ := h l hl
  obtain ⟨k1, k2⟩ := chn_ln b4 b1 b2 (by omega)
  refine ⟨a, k1, by rw [b5, b1, b2]; omega, fun q => by rw [b1]; have := b6 q; omega, fun l' hl' => by rw [b1]; exact b7 l' hl', k2⟩
theorem bkL_add {f : Nat} {W : zM} {L o0 c : Nat} {s : List Nat} (h : bkL f W L o0) (h4 : W (f + 4) L = W 120 L ∧ (1 ≤ W 120 L ∧ W 120 L ≤ 4)) (b1 : W 121 L = (o0 : Int)) (b2 : W 122 L = (c : Int)) (b4 : chn W f o0 c s) (b5 : W (f + 5) L = ((o0 + c : Nat) : Int)) (b6 : L = 0 → o0 = 0) (b7 : ∀ l', L = l' + 1 → W (f + 5) l' = (o0 : Int)) : bkL f W (L + 1) (o0 + c) := fun l hl => by
  by_cases q : l = L
  · subst q
    exact ⟨h4, o0, c, s, b1, b2, Nat.le_refl _, b4, b5, b6, b7⟩
  · obtain ⟨a, o1, c1, s1, d1, d2, d3, d4, d5, d6, d7⟩ := h l (by omega)
    exact ⟨a, o1, c1, s1, d1, d2, by omega, d4, d5, d6, d7⟩
