/-! the reference's own good state, whatever the class's cells -/
def refOk (M : zM) : Prop := ((2 ≤ M 102 51 ∧ M 102 51 ≤ 8) ∧ (2 ≤ M 102 52 ∧ M 102 52 ≤ 8)) ∧ (∀ i, (M 130 i = 0 ∨ M 130 i = 1) ∧ (M 131 i = 0 ∨ M 131 i = 1)) ∧ (∀ i, 0 ≤ M 128 i ∧ M 128 i ≤ 999) ∧ (∀ i, 0 ≤ M 129 i ∧ M 129 i ≤ 99) ∧
  ((0 ≤ M 102 58 ∧ M 102 58 ≤ 3) ∧ ∀ w : Nat, (w : Int) < M 102 58 → (0 ≤ M 132 w ∧ M 132 w ≤ 99) ∧ (0 ≤ M 133 w ∧ M 133 w < M 102 51 * M 102 52) ∧ (1 ≤ M 134 w ∧ M 134 w ≤ 99) ∧ (1 ≤ M 135 w ∧ M 135 w ≤ 12) ∧ (1 ≤ M 136 w ∧ M 136 w ≤ 99)) ∧
  ((0 ≤ M 102 69 ∧ M 102 69 ≤ 8) ∧ ∀ p : Nat, (p : Int) < M 102 69 → (M 142 p = 1 ∧ (0 ≤ M 143 p ∧ M 143 p < M 102 51 * M 102 52) ∧ (1 ≤ M 144 p ∧ M 144 p ≤ 999) ∧ (1 ≤ M 145 p ∧ M 145 p ≤ 4) ∧ (0 ≤ M 146 p ∧ M 146 p ≤ 5)) ∨ (M 142 p = 0 ∧ (0 ≤ M 147 p ∧ M 147 p ≤ 9999))) ∧
  ((0 ≤ M 102 76 ∧ M 102 76 ≤ 14) ∧ ∀ r : Nat, (r : Int) < M 102 76 → (0 ≤ M 148 r ∧ M 148 r < M 102 69) ∧ (0 ≤ M 149 r ∧ M 149 r < M 102 69) ∧ (1 ≤ M 150 r ∧ M 150 r ≤ 5) ∧ (1 ≤ M 151 r ∧ M 151 r ≤ 999) ∧ (1 ≤ M 152 r ∧ M 152 r ≤ 6) ∧ (M 153 r = -1 ∨ (0 ≤ M 153 r ∧ M 153 r < M 102 51 * M 102 52)))
theorem refOk_A {k : Nat} {M : zM} (hA : RelA k M) : refOk M := by
  obtain ⟨-, -, -, -, -, -, ⟨l1, l2, l3, l4, l5, l6, l7, l8, l9, l10⟩, -, ⟨wc, wr, wf, wb⟩, ⟨p1, p2, p3, -⟩, ⟨r1, r2, r3⟩, -⟩ := hA
  refine ⟨⟨l3, l4⟩, l8, l9, l10, ⟨wr, wb⟩, ⟨p2, fun p hp => ?_⟩, ⟨r2, fun r hr => ?_⟩⟩
  · rcases p3 p hp with ⟨a1, a2, a3, a4, a5, a6, a7, a8, a9, a10⟩ | ⟨a1, a2, a3, a4, a5⟩
    · exact Or.inl ⟨a1, a7, a8, a9, a10⟩
    · exact Or.inr ⟨a1, a5⟩
  · obtain ⟨-, -, -, -, -, -, b1, b2, b3, b4, b5, b6, b7⟩ := r3 r hr
    exact ⟨b1, b2, b4, b5, b6, b7⟩
theorem wt_O {M : zM} (h : refOk M) : (4 ≤ M 102 51 * M 102 52 ∧ M 102 51 * M 102 52 ≤ 64) ∧ zR (M 102 51 * M 102 52) := by
  obtain ⟨⟨h1, h2⟩, -⟩ := h
  have h3 : M 102 51 = 2 ∨ M 102 51 = 3 ∨ M 102 51 = 4 ∨ M 102 51 = 5 ∨ M 102 51 = 6 ∨ M 102 51 = 7 ∨ M 102 51 = 8 := by omega
  rcases h3 with h3 | h3 | h3 | h3 | h3 | h3 | h3 <;> rw [h3] <;> (unfold zR; omega)
theorem r_flowsO {E : zE} {M : zM} {Q : Int → zM → Prop} {w : Nat} (hO : refOk M) (hw : (w : Int) < M 102 58)
    (h : ∀ M', lvFr M M' → (∀ t, t ≤ 12 → ∀ j : Nat, (j : Int) < M 102 51 * M 102 52 → M' 137 (64 * t + j) = (lvR M w t).1 j ∧ M' 138 (64 * t + j) = (lvR M w t).2.1 j) → (∀ j : Nat, (j : Int) < M 102 51 * M 102 52 → M' 139 j = (lvR M w 12).2.2 j) → Q 0 M') : zP E mX12_flows [.inr (.inr 102), .inl (w : Int)] M Q := by
  obtain ⟨⟨l3, l4⟩, l8, l9, l10, ⟨wr, wb⟩, -⟩ := hO
  obtain ⟨b1, b2, b3, b4, b5⟩ := wb w hw
  obtain ⟨W, hW⟩ : ∃ W : Nat, M 102 51 = (W : Int) := ⟨(M 102 51).toNat, by omega⟩
  obtain ⟨T, hT⟩ : ∃ T : Nat, M 102 52 = (T : Int) := ⟨(M 102 52).toNat, by omega⟩
  have hWT : M 102 51 * M 102 52 = ((W * T : Nat) : Int) := by rw [hW, hT]; simp
  rw [hWT] at b2 h
  refine r_flows (by omega) hW hT (by omega) (by omega) b2 b3 b4 l9 l8 (fun M' g1 g2 g3 => h M' g1 (fun t ht j hj => g2 t ht j (by omega)) (fun j hj => g3 j (by omega)))
theorem lvR_O {M : zM} {w s : Nat} (hO : refOk M) (hw : (w : Int) < M 102 58) (hs : s ≤ 12) (c : Nat) (hc : (c : Int) < M 102 51 * M 102 52) : zR ((lvR M w s).1 c) ∧ zR ((lvR M w s).2.1 c) ∧ (1 ≤ (lvR M w s).2.2 c ∧ (lvR M w s).2.2 c ≤ 13) := by
  obtain ⟨⟨l3, l4⟩, l8, l9, l10, ⟨wr, wb⟩, -⟩ := hO
  obtain ⟨b1, b2, b3, b4, b5⟩ := wb w hw
  obtain ⟨W, hW⟩ : ∃ W : Nat, M 102 51 = (W : Int) := ⟨(M 102 51).toNat, by omega⟩
  obtain ⟨T, hT⟩ : ∃ T : Nat, M 102 52 = (T : Int) := ⟨(M 102 52).toNat, by omega⟩
  have hWT : M 102 51 * M 102 52 = ((W * T : Nat) : Int) := by rw [hW, hT]; simp
  obtain ⟨v, hv⟩ : ∃ v : Nat, M 133 w = (v : Int) := ⟨(M 133 w).toNat, by omega⟩
  rw [hWT] at b2 hc
  rw [hv] at b2
  have g0r : ∀ c, -8 ≤ gr0 M c ∧ gr0 M c ≤ 1007 := fun c => by
    have := l9 c
    unfold gr0
    split <;> split <;> omega
  have ok : lvOk v (W * T) s (lvR M w s) := by
    unfold lvR
    rw [hW, hT, hv]
    simp only [Int.toNat_natCast]
    exact lv_ok (by omega) (by omega) b3 b4.1 (by omega) g0r s hs
  obtain ⟨o1, o2, o3, o4, -⟩ := ok
  have q1 := sm_mem (fun i _ => o1 i) (show c < W * T by omega)
  have q2 := o1 c
  have q3 := o3 c
  have q4 := o4 c
  have : (s : Int) ≤ 12 := by omega
  unfold zR
  omega
theorem nt_O {M : zM} {w : Nat} (hO : refOk M) (hw : (w : Int) < M 102 58) : ntOk M (scF M w) w := by
  have hO0 := hO
  obtain ⟨-, -, -, -, ⟨wr, wb⟩, ⟨p2, p3⟩, ⟨r2, r3⟩⟩ := hO
  refine ⟨p2, r2, (wb w hw).1, fun p hp => ?_, fun r hr => ?_⟩
  · rcases p3 p hp with ⟨a1, a7, a8, a9, a10⟩ | ⟨a1, a5⟩
    · refine Or.inr ⟨a1, a8, ?_⟩
      exact (lvR_O (s := 12) hO0 hw (by omega) (M 143 p).toNat (by omega)).2.2
    · exact Or.inl ⟨a1, a5⟩
  · obtain ⟨b1, b2, b4, b5, b6, b7⟩ := r3 r hr
    exact ⟨b1, b2, b4, b5⟩
theorem refOk_e {M M' : zM} (b : bs M M') (h : refOk M) : refOk M' := by
  unfold refOk at h ⊢
  have g : ∀ y, 102 ≤ y → (∀ j, dNb y j = false) → M' y = M y := fun y hy hd => funext fun j => b y j hy (hd j)
  rw [b 102 51 (by decide) rfl, b 102 52 (by decide) rfl, b 102 58 (by decide) rfl, b 102 69 (by decide) rfl, b 102 76 (by decide) rfl, g 130 (by decide) (fun j => rfl), g 131 (by decide) (fun j => rfl), g 128 (by decide) (fun j => rfl), g 129 (by decide) (fun j => rfl), g 132 (by decide) (fun j => rfl), g 133 (by decide) (fun j => rfl), g 134 (by decide) (fun j => rfl), g 135 (by decide) (fun j => rfl), g 136 (by decide) (fun j => rfl), g 142 (by decide) (fun j => rfl), g 143 (by decide) (fun j => rfl), g 144 (by decide) (fun j => rfl), g 145 (by decide) (fun j => rfl), g 146 (by decide) (fun j => rfl), g 147 (by decide) (fun j => rfl), g 148 (by decide) (fun j => rfl), g 149 (by decide) (fun j => rfl), g 150 (by decide) (fun j => rfl), g 151 (by decide) (fun j => rfl), g 152 (by decide) (fun j => rfl), g 153 (by decide) (fun j => rfl)]
  exact h
