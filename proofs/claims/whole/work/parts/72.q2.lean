/-! pairs of calls: worlds, places, roads, candidates, works, feed, look -/
theorem q_world {E : zE} {k : Nat} {M : zM} {P' : zM → Prop} {s v r l w : Int} (hA : RelA k M) (h1 : zR s) (h2 : zR v) (h3 : zR r) (h4 : zR l) (h5 : zR w)
    (h : if M 102 58 < 3 ∧ (0 ≤ s ∧ s ≤ 99) ∧ (0 ≤ v ∧ v < M 102 51 * M 102 52) ∧ (1 ≤ r ∧ r ≤ 99) ∧ (1 ≤ l ∧ l ≤ 12) ∧ (1 ≤ w ∧ w ≤ 99) then
      ∀ a M1, a = wid (M 102 58).toNat → M1 = cLv (zup (zup (zup (zup (zup (zup M a 0 s) a 1 v) a 2 r) a 3 l) a 4 w) 0 11 (M 102 58 + 1)) →
      P' (zup (zup (zup (zup (zup (zup (zup M1 102 2 0) 132 (M 102 58).toNat s) 133 (M 102 58).toNat v) 134 (M 102 58).toNat r) 135 (M 102 58).toNat l) 136 (M 102 58).toNat w) 102 58 (M 102 58 + 1)) else P' (zup M 102 2 0)) : zPP E mX11_world mX12_world [.inl s, .inl v, .inl r, .inl l, .inl w] M P' := by
  obtain ⟨hf, -, -, -, -, -, hl, -, ⟨a1, a2, -⟩, -⟩ := hA
  obtain ⟨w1, w2⟩ := wt_r hl
  refine c_world h1 h2 h3 h4 h5 hf (by rw [hl.2.1]; omega) (by rw [a1]; exact a2) ?_
  rw [hl.2.1, a1]
  split <;> rename_i g
  · rw [if_pos g] at h
    intro a ha hid
    have hw : a = wid (M 102 58).toNat := by
      obtain ⟨⟨f1, f2, f3⟩, -⟩ := hf
      have h9 : (M 102 58).toNat = 0 ∨ (M 102 58).toNat = 1 ∨ (M 102 58).toNat = 2 := by omega
      unfold wid
      rcases h9 with h9 | h9 | h9 <;> rw [h9] at ha ⊢
      · rw [f1] at ha; simp; omega
      · rw [f2] at ha; simp; omega
      · rw [f3] at ha; simp; omega
    obtain ⟨M1, hM1⟩ : ∃ M1, M1 = cLv (zup (zup (zup (zup (zup (zup M a 0 s) a 1 v) a 2 r) a 3 l) a 4 w) 0 11 (M 102 58 + 1)) := ⟨_, rfl⟩
    have h := h a M1 hw hM1
    rw [← hM1]
    have ea : ∀ j, M1 102 j = M 102 j := by
      intro j
      rw [hM1]
      simp only [cLv, cEs, cPl, zup_r]
      repeat (first | rw [if_neg (by omega)] | rfl)
    refine r_world h1 h2 h3 h4 h5 (by rw [ea, ea]; exact w2) (by rw [ea]; exact a2) ?_
    rw [ea, ea, ea, if_pos g]
    exact q_end (by unfold zR; omega) h
  · rw [if_neg g] at h
    refine r_world h1 h2 h3 h4 h5 w2 a2 ?_
    rw [if_neg g]
    exact q_end (zRd rfl) h
theorem q_town {E : zE} {k : Nat} {M : zM} {P' : zM → Prop} {c n t l : Int} (hA : RelA k M) (h1 : zR c) (h2 : zR n) (h3 : zR t) (h4 : zR l)
    (h : if (0 ≤ c ∧ c < M 102 51 * M 102 52) ∧ (1 ≤ n ∧ n ≤ 999) ∧ (1 ≤ t ∧ t ≤ 4) ∧ (0 ≤ l ∧ l ≤ 5) then
      (if M 102 69 < 8 then ∀ M1, M1 = zup (zup (zup (zup (zup (zup (cEs M) 45 (M 102 69).toNat c) 46 (M 102 69).toNat n) 47 (M 102 69).toNat t) 48 (M 102 69).toNat l) 49 (M 102 69).toNat 0) 44 6 (M 102 69 + 1) →
        P' (zup (zup (zup (zup (zup (zup (zup M1 102 2 0) 142 (M 102 69).toNat 1) 143 (M 102 69).toNat c) 144 (M 102 69).toNat n) 145 (M 102 69).toNat t) 146 (M 102 69).toNat l) 102 69 (M 102 69 + 1)) else P' (zup (cEs M) 102 2 0)) else P' (zup M 102 2 0)) : zPP E mX11_town mX12_town [.inl c, .inl n, .inl t, .inl l] M P' := by
  obtain ⟨hf, -, -, -, -, -, hl, -, -, ⟨a1, a2, -⟩, -⟩ := hA
  obtain ⟨w1, w2⟩ := wt_r hl
  refine c_town h1 h2 h3 h4 hf (by rw [hl.2.1]; omega) (by rw [a1]; exact a2) ?_
  rw [hl.2.1, a1]
  split <;> rename_i g
  · rw [if_pos g] at h
    split <;> rename_i g2
    · rw [if_pos g2] at h
      obtain ⟨M1, hM1⟩ : ∃ M1, M1 = zup (zup (zup (zup (zup (zup (cEs M) 45 (M 102 69).toNat c) 46 (M 102 69).toNat n) 47 (M 102 69).toNat t) 48 (M 102 69).toNat l) 49 (M 102 69).toNat 0) 44 6 (M 102 69 + 1) := ⟨_, rfl⟩
      have h := h M1 hM1
      rw [← hM1]
      have ea : ∀ j, M1 102 j = M 102 j := by intro j; rw [hM1]; simp [cEs, cPl, zup_r]
      refine r_town h1 h2 h3 h4 (by rw [ea, ea]; exact w2) (by rw [ea]; exact a2) ?_
      rw [ea, ea, ea, if_pos ⟨g2, g⟩]
      exact q_end (by unfold zR; omega) h
    · rw [if_neg g2] at h
      have ea : ∀ j, cEs M 102 j = M 102 j := by intro j; simp [cEs, cPl, zup_r]
      refine r_town h1 h2 h3 h4 (by rw [ea, ea]; exact w2) (by rw [ea]; exact a2) ?_
      rw [ea, ea, ea, if_neg (fun q => g2 q.1)]
      exact q_end (zRd rfl) h
  · rw [if_neg g] at h
    refine r_town h1 h2 h3 h4 w2 a2 ?_
    rw [if_neg (fun q => g q.2)]
    exact q_end (zRd rfl) h
theorem q_shelter {E : zE} {k : Nat} {M : zM} {P' : zM → Prop} {n : Int} (hA : RelA k M) (h1 : zR n)
    (h : if (0 ≤ n ∧ n ≤ 9999) then
      (if M 102 69 < 8 then ∀ M1, M1 = zup (zup (zup (zup (zup (zup (zup (cEs M) 45 (M 102 69).toNat (-1)) 46 (M 102 69).toNat 0) 47 (M 102 69).toNat 0) 48 (M 102 69).toNat 0) 49 (M 102 69).toNat 0) 44 6 (M 102 69 + 1)) 49 (M 102 69).toNat n →
        P' (zup (zup (zup (zup M1 102 2 0) 142 (M 102 69).toNat 0) 147 (M 102 69).toNat n) 102 69 (M 102 69 + 1)) else P' (zup (cEs M) 102 2 0)) else P' (zup M 102 2 0)) : zPP E mX11_shelter mX12_shelter [.inl n] M P' := by
  obtain ⟨hf, -, -, -, -, -, -, -, -, ⟨a1, a2, -⟩, -⟩ := hA
  refine c_shelter h1 hf (by rw [a1]; exact a2) ?_
  rw [a1]
  split <;> rename_i g
  · rw [if_pos g] at h
    split <;> rename_i g2
    · rw [if_pos g2] at h
      obtain ⟨M1, hM1⟩ : ∃ M1, M1 = zup (zup (zup (zup (zup (zup (zup (cEs M) 45 (M 102 69).toNat (-1)) 46 (M 102 69).toNat 0) 47 (M 102 69).toNat 0) 48 (M 102 69).toNat 0) 49 (M 102 69).toNat 0) 44 6 (M 102 69 + 1)) 49 (M 102 69).toNat n := ⟨_, rfl⟩
      have h := h M1 hM1
      rw [← hM1]
      have ea : ∀ j, M1 102 j = M 102 j := by intro j; rw [hM1]; simp [cEs, cPl, zup_r]
      refine r_shelter h1 (by rw [ea]; exact a2) ?_
      rw [ea, if_pos ⟨g2, g⟩]
      exact q_end (by unfold zR; omega) h
    · rw [if_neg g2] at h
      have ea : ∀ j, cEs M 102 j = M 102 j := by intro j; simp [cEs, cPl, zup_r]
      refine r_shelter h1 (by rw [ea]; exact a2) ?_
      rw [ea, if_neg (fun q => g2 q.1)]
      exact q_end (zRd rfl) h
  · rw [if_neg g] at h
    refine r_shelter h1 a2 ?_
    rw [if_neg (fun q => g q.2)]
    exact q_end (zRd rfl) h
theorem q_road {E : zE} {k : Nat} {M : zM} {P' : zM → Prop} {a b n cp e c : Int} (hA : RelA k M) (h1 : zR a) (h2 : zR b) (h3 : zR n) (h4 : zR cp) (h5 : zR e) (h6 : zR c)
    (h : if (0 ≤ a ∧ a < M 102 69) ∧ (0 ≤ b ∧ b < M 102 69) ∧ a ≠ b ∧ (1 ≤ n ∧ n ≤ 5) ∧ (1 ≤ cp ∧ cp ≤ 999) ∧ (1 ≤ e ∧ e ≤ 6) ∧ (c = -1 ∨ (0 ≤ c ∧ c < M 102 51 * M 102 52)) then
      (if M 102 76 < 14 then ∀ M1, M1 = zup (zup (zup (zup (zup (zup (zup (cEs M) 51 (M 102 76).toNat a) 52 (M 102 76).toNat b) 53 (M 102 76).toNat n) 54 (M 102 76).toNat cp) 55 (M 102 76).toNat e) 56 (M 102 76).toNat c) 44 13 (M 102 76 + 1) →
        P' (zup (zup (zup (zup (zup (zup (zup (zup M1 102 2 0) 148 (M 102 76).toNat a) 149 (M 102 76).toNat b) 150 (M 102 76).toNat n) 151 (M 102 76).toNat cp) 152 (M 102 76).toNat e) 153 (M 102 76).toNat c) 102 76 (M 102 76 + 1)) else P' (zup (cEs M) 102 2 0)) else P' (zup M 102 2 0)) : zPP E mX11_road mX12_road [.inl a, .inl b, .inl n, .inl cp, .inl e, .inl c] M P' := by
  obtain ⟨hf, -, -, -, -, -, hl, -, -, ⟨a1, a2, -⟩, ⟨b1, b2, -⟩, -⟩ := hA
  obtain ⟨w1, w2⟩ := wt_r hl
  refine c_road h1 h2 h3 h4 h5 h6 hf (by rw [hl.2.1]; omega) (by rw [a1]; exact a2) (by rw [b1]; exact b2) ?_
  rw [hl.2.1, a1, b1]
  split <;> rename_i g
  · rw [if_pos g] at h
    split <;> rename_i g2
    · rw [if_pos g2] at h
      obtain ⟨M1, hM1⟩ : ∃ M1, M1 = zup (zup (zup (zup (zup (zup (zup (cEs M) 51 (M 102 76).toNat a) 52 (M 102 76).toNat b) 53 (M 102 76).toNat n) 54 (M 102 76).toNat cp) 55 (M 102 76).toNat e) 56 (M 102 76).toNat c) 44 13 (M 102 76 + 1) := ⟨_, rfl⟩
      have h := h M1 hM1
      rw [← hM1]
      have ea : ∀ j, M1 102 j = M 102 j := by intro j; rw [hM1]; simp [cEs, cPl, zup_r]
      refine r_road h1 h2 h3 h4 h5 h6 (by rw [ea, ea]; exact w2) (by rw [ea]; exact a2) (by rw [ea]; exact b2) ?_
      rw [ea, ea, ea, ea, if_pos ⟨g2, g⟩]
      exact q_end (by unfold zR; omega) h
    · rw [if_neg g2] at h
      have ea : ∀ j, cEs M 102 j = M 102 j := by intro j; simp [cEs, cPl, zup_r]
      refine r_road h1 h2 h3 h4 h5 h6 (by rw [ea, ea]; exact w2) (by rw [ea]; exact a2) (by rw [ea]; exact b2) ?_
      rw [ea, ea, ea, ea, if_neg (fun q => g2 q.1)]
      exact q_end (zRd rfl) h
  · rw [if_neg g] at h
    refine r_road h1 h2 h3 h4 h5 h6 w2 a2 b2 ?_
    rw [if_neg (fun q => g q.2)]
    exact q_end (zRd rfl) h
theorem q_candidate {E : zE} {k : Nat} {M : zM} {P' : zM → Prop} {c : Int} (hA : RelA k M) (h1 : zR c)
    (h : if M 102 96 < 6 ∧ (0 ≤ c ∧ c < M 102 51 * M 102 52) ∧ (∀ i : Nat, i < (M 102 96).toNat → M 162 i ≠ c) then
      P' (zup (zup (zup (cPl (zup (zup M 32 (M 102 96).toNat c) 28 7 (M 102 96 + 1))) 102 2 0) 162 (M 102 96).toNat c) 102 96 (M 102 96 + 1)) else P' (zup M 102 2 0)) : zPP E mX11_candidate mX12_candidate [.inl c] M P' := by
  obtain ⟨hf, -, -, -, -, -, hl, ⟨-, -, c1, c2, c3, c4⟩, -⟩ := hA
  obtain ⟨w1, w2⟩ := wt_r hl
  have cz : ∀ i, zR (M 162 i) := fun i => by have := c4 i; unfold zR; omega
  refine c_candidate h1 hf (by rw [hl.2.1]; omega) (by rw [c1]; exact c2) (fun i => by rw [c3]; exact cz i) ⟨fun g => ?_, fun g => ?_⟩
  · rw [hl.2.1, c1] at g
    have g9 : M 102 96 < 6 ∧ (0 ≤ c ∧ c < M 102 51 * M 102 52) ∧ (∀ i : Nat, i < (M 102 96).toNat → M 162 i ≠ c) := ⟨g.2.1, g.1, fun i hi => by rw [← c3]; exact g.2.2 i (by omega)⟩
    rw [if_pos g9] at h
    rw [c1]
    obtain ⟨M1, hM1⟩ : ∃ M1, M1 = cPl (zup (zup M 32 (M 102 96).toNat c) 28 7 (M 102 96 + 1)) := ⟨_, rfl⟩
    rw [← hM1] at h ⊢
    have ea : ∀ j, M1 102 j = M 102 j := by intro j; rw [hM1]; simp [cPl, zup_r]
    have eb : ∀ j, M1 162 j = M 162 j := by intro j; rw [hM1]; simp [cPl, zup_r]
    refine r_candidate h1 (by rw [ea, ea]; exact w2) (by rw [ea]; exact c2) (fun i => by rw [eb]; exact cz i) ?_
    rw [ea, ea, ea, if_pos ⟨g9.1, g9.2.1, fun i hi => by rw [eb]; exact g9.2.2 i hi⟩]
    exact q_end (by unfold zR; omega) h
  · rw [hl.2.1, c1] at g
    have g9 : ¬ (M 102 96 < 6 ∧ (0 ≤ c ∧ c < M 102 51 * M 102 52) ∧ (∀ i : Nat, i < (M 102 96).toNat → M 162 i ≠ c)) := fun q => g ⟨q.2.1, q.1, fun i hi => by rw [c3]; exact q.2.2 i (by omega)⟩
    rw [if_neg g9] at h
    refine r_candidate h1 w2 c2 cz ?_
    rw [if_neg g9]
    exact q_end (zRd rfl) h
