/-! pairs of calls: the same answer, and the memory behind both -/
theorem q_end {r : Int} {P' : Prop} (h1 : zR r) (h : P') : (zR r ∧ zR r) ∧ r = r ∧ P' := ⟨⟨h1, h1⟩, rfl, h⟩
theorem q_hours {E : zE} {k : Nat} {M : zM} {P' : zM → Prop} {n : Int} (hA : RelA k M) (h1 : zR n)
    (h : if 0 ≤ n ∧ M 102 3 + n ≤ 99 then P' (zup (zup (zup M 0 0 (M 102 3 + n)) 102 2 0) 102 3 (M 102 3 + n)) else P' (zup M 102 2 0)) : zPP E mX11_hours mX12_hours [.inl n] M P' := by
  obtain ⟨-, -, -, ⟨e, er⟩, -⟩ := hA
  refine c_hours h1 (by rw [e]; exact er) ?_
  rw [e]
  split <;> rename_i hh
  · rw [if_pos hh] at h
    refine r_hours h1 (by simpa [zup_r] using er) ?_
    rw [if_pos (by simpa [zup_r] using hh)]
    have e2 : (zup M 0 0 (M 102 3 + n)) 102 3 = M 102 3 := by simp [zup_r]
    rw [e2]
    exact q_end (by unfold zR; omega) h
  · rw [if_neg hh] at h
    refine r_hours h1 er ?_
    rw [if_neg hh]
    exact q_end (zRd rfl) h
theorem q_fault {E : zE} {k : Nat} {M : zM} {P' : zM → Prop} {n : Int} (hA : RelA k M) (h1 : zR n) (h : P' (zup M 102 2 0)) : zPP E mX11_fault mX12_fault [.inl n] M P' := by
  obtain ⟨-, -, ⟨e1, e2, e3, e4⟩, -⟩ := hA
  refine c_fault h1 ?_
  refine r_fault h1 ?_
  rw [e1, e2]
  exact q_end (by grind [zR]) h
theorem q_count {E : zE} {k : Nat} {M : zM} {P' : zM → Prop} {n : Int} (hA : RelA k M) (hk : k ≤ 600) (h1 : zR n) (h : P' (zup M 102 2 0)) : zPP E mX11_count mX12_count [.inl n] M P' := by
  obtain ⟨-, -, -, ⟨a1, a2⟩, ⟨b1, b2, -⟩, ⟨c1, c2, -⟩, -, ⟨d1, d2, d3, d4, -⟩, ⟨f1, f2, -⟩, ⟨g1, g2, -⟩, ⟨i1, i2, -⟩, -, ⟨j0, j1, j2, j3, j4, j5, j6⟩, -⟩ := hA
  have hc := c2.1
  refine c_count h1 (by rcases j0 with j0 | j0 <;> rw [j0.1] <;> simp [zIs_6]) ?_
  refine r_count h1 ?_
  rw [a1, b1, c1, j1, j2, j3, f1, g1, i1, d3, d1]
  exact q_end (by grind (splits := 24) [zR]) h
theorem q_post {E : zE} {k : Nat} {M : zM} {P' : zM → Prop} {n : Int} (hA : RelA k M) (h1 : zR n)
    (h : if M 102 4 < 8 ∧ 0 ≤ n ∧ n ≤ 3 then P' (zup (zup (zup (cAl (zup (zup M 21 (M 102 4).toNat n) 20 1 (M 102 4 + 1)) 0) 102 2 0) 104 (M 102 4).toNat n) 102 4 (M 102 4 + 1)) else P' (zup M 102 2 0)) : zPP E mX11_post mX12_post [.inl n] M P' := by
  obtain ⟨hf, -, -, -, ⟨e, er, -⟩, -, -, -, -, -, -, -, -, ⟨kp, -⟩⟩ := hA
  refine c_post h1 hf (by unfold zR; omega) (by rw [e]; exact er) ?_
  rw [e]
  split <;> rename_i hh
  · rw [if_pos hh] at h
    have e2 : (cAl (zup (zup M 21 (M 102 4).toNat n) 20 1 (M 102 4 + 1)) 0) 102 4 = M 102 4 := by simp [cAl, cEs, cPl, zup_r]
    refine r_post h1 (by rw [e2]; exact er) ?_
    rw [e2, if_pos hh]
    exact q_end (by unfold zR; omega) h
  · rw [if_neg hh] at h
    refine r_post h1 er ?_
    rw [if_neg hh]
    exact q_end (zRd rfl) h
theorem q_read {E : zE} {k : Nat} {M : zM} {P' : zM → Prop} {p hr v g : Int} (hA : RelA k M) (h1 : zR p) (h2 : zR hr) (h3 : zR v) (hg : g = 0 ∨ g = 1)
    (h : if (0 ≤ p ∧ p < M 102 4) ∧ (0 ≤ hr ∧ hr ≤ M 102 3) ∧ (g = 1 ∨ (-9999 ≤ v ∧ v ≤ 9999)) ∧ M 102 6 < 400 then
      ∀ M1, M1 = cAl (zup (zup (zup (zup (zup M 24 (M 102 6).toNat (M 102 3)) 25 (M 102 6).toNat (if g = 1 then -10000 else v)) 23 (M 102 6).toNat (M 22 (p * 100 + hr).toNat)) 22 (p * 100 + hr).toNat (M 102 6)) 20 6 (M 102 6 + 1)) (M 102 3) →
      P' (zup (zup (zup (zup (zup (zup (zup M1 102 2 0) 105 (M 102 6).toNat p) 106 (M 102 6).toNat hr) 107 (M 102 6).toNat (if g = 1 then 0 else v)) 109 (M 102 6).toNat g) 108 (M 102 6).toNat (M 102 3)) 102 6 (M 102 6 + 1)) else P' (zup M 102 2 0)) : zPP E mX11_read mX12_read [.inl p, .inl hr, .inl v, .inl g] M P' := by
  obtain ⟨hf, -, -, ⟨a1, a2⟩, ⟨b1, b2, -⟩, ⟨c1, c2, -⟩, -, -, -, -, -, -, -, ⟨kp, -⟩⟩ := hA
  have hc := c2.1
  refine c_read h1 h2 h3 hg hf (by unfold zR; omega) (by rw [a1]; exact a2) (by rw [b1]; exact b2) (by rw [c1]; exact hc) ?_
  rw [a1, b1, c1]
  split <;> rename_i hh
  · rw [if_pos hh] at h
    obtain ⟨M1, hM1⟩ : ∃ M1, M1 = cAl (zup (zup (zup (zup (zup M 24 (M 102 6).toNat (M 102 3)) 25 (M 102 6).toNat (if g = 1 then -10000 else v)) 23 (M 102 6).toNat (M 22 (p * 100 + hr).toNat)) 22 (p * 100 + hr).toNat (M 102 6)) 20 6 (M 102 6 + 1)) (M 102 3) := ⟨_, rfl⟩
    have h := h M1 hM1
    rw [← hM1]
    have e1 : M1 102 4 = M 102 4 := by rw [hM1]; simp [cAl, cEs, cPl, zup_r]
    have e2 : M1 102 3 = M 102 3 := by rw [hM1]; simp [cAl, cEs, cPl, zup_r]
    have e3 : M1 102 6 = M 102 6 := by rw [hM1]; simp [cAl, cEs, cPl, zup_r]
    refine r_read h1 h2 h3 hg (by rw [e2]; exact a2) (by rw [e1]; exact b2) (by rw [e3]; exact hc) ?_
    rw [e1, e2, e3, if_pos hh]
    exact q_end (by unfold zR; omega) h
  · rw [if_neg hh] at h
    refine r_read h1 h2 h3 hg a2 b2 hc ?_
    rw [if_neg hh]
    exact q_end (zRd rfl) h
theorem q_wind {E : zE} {M : zM} {P' : zM → Prop} {a b c : Int} (h1 : zR a) (h2 : zR b) (h3 : zR c)
    (h : if (0 ≤ a ∧ a ≤ 123) ∧ (0 ≤ b ∧ b ≤ 7) ∧ (0 ≤ c ∧ c ≤ 7) then P' (zup (zup (zup (zup (zup M 67 a.toNat b) 68 a.toNat c) 102 2 0) 163 a.toNat b) 164 a.toNat c) else P' (zup M 102 2 0)) : zPP E mX11_wind mX12_wind [.inl a, .inl b, .inl c] M P' := by
  refine c_wind h1 h2 h3 ?_
  split <;> rename_i hh
  · rw [if_pos hh] at h
    refine r_wind h1 h2 h3 ?_
    rw [if_pos hh]
    exact q_end (zRd rfl) h
  · rw [if_neg hh] at h
    refine r_wind h1 h2 h3 ?_
    rw [if_neg hh]
    exact q_end (zRd rfl) h
theorem q_land {E : zE} {k : Nat} {M : zM} {P' : zM → Prop} {w l : Int} (hA : RelA k M) (h1 : zR w) (h2 : zR l)
    (h : if (2 ≤ w ∧ w ≤ 8) ∧ (2 ≤ l ∧ l ≤ 8) then
      ∀ M1 M', M1 = cLv (zup (zup (zup (cLay M w l) 0 11 0) 44 6 0) 44 13 0) → (∀ x, x ≠ 102 → x ≠ 128 → x ≠ 129 → x ≠ 130 → x ≠ 131 → M' x = M1 x) →
        (∀ j, M' 102 j = if j = 2 ∨ j = 57 ∨ j = 58 ∨ j = 69 ∨ j = 76 ∨ j = 96 then 0 else if j = 51 then w else if j = 52 then l else M 102 j) →
        (∀ i : Nat, M' 128 i = if i < 64 then 0 else M 128 i) → (∀ i : Nat, M' 129 i = if i < 64 then 0 else M 129 i) → (∀ i : Nat, M' 130 i = if i < 64 then 0 else M 130 i) → (∀ i : Nat, M' 131 i = if i < 64 then 0 else M 131 i) → P' M'
      else P' (zup M 102 2 0)) : zPP E mX11_land mX12_land [.inl w, .inl l] M P' := by
  refine c_land h1 h2 hA.1 ?_
  split <;> rename_i hh
  · rw [if_pos hh] at h
    refine r_land h1 h2 ?_
    rw [if_pos hh]
    intro M' g1 g2 g3 g4 g5 g6
    have z : ∀ a j : Nat, 102 ≤ a → (cLv (zup (zup (zup (cLay M w l) 0 11 0) 44 6 0) 44 13 0)) a j = M a j := by
      intro a j ha
      simp only [cLv, cEs, cPl, cLay, zup_r, zfill_r]
      repeat (first | rw [if_neg (by omega)] | rfl)
    refine q_end (zRd rfl) (h _ M' rfl g1 (fun j => ?_) (fun i => ?_) (fun i => ?_) (fun i => ?_) (fun i => ?_))
    · rw [g2 j, z _ _ (by decide)]
    · rw [g3 i, z _ _ (by decide)]
    · rw [g4 i, z _ _ (by decide)]
    · rw [g5 i, z _ _ (by decide)]
    · rw [g6 i, z _ _ (by decide)]
  · rw [if_neg hh] at h
    refine r_land h1 h2 ?_
    rw [if_neg hh]
    exact q_end (zRd rfl) h
theorem q_ground {E : zE} {k : Nat} {M : zM} {P' : zM → Prop} {c hh n : Int} (hA : RelA k M) (h1 : zR c) (h2 : zR hh) (h3 : zR n)
    (h : if (0 ≤ c ∧ c < M 102 51 * M 102 52) ∧ (0 ≤ hh ∧ hh ≤ 999) ∧ (0 ≤ n ∧ n ≤ 99) ∧ (n = 0 ∨ (M 130 c.toNat = 0 ∧ M 131 c.toNat = 0)) then
      P' (zup (zup (zup (cLv (zup (zup M 29 c.toNat hh) 30 c.toNat n)) 102 2 0) 128 c.toNat hh) 129 c.toNat n) else P' (zup M 102 2 0)) : zPP E mX11_ground mX12_ground [.inl c, .inl hh, .inl n] M P' := by
  obtain ⟨hf, -, -, -, -, -, hl, -⟩ := hA
  obtain ⟨w1, w2⟩ := wt_r hl
  obtain ⟨l1, l2, l3, l4, l5, l6, l7, l8, l9, l10⟩ := hl
  have lw : ∀ i, zR (M 31 i) ∧ (M 31 i = 0 ↔ M 130 i = 0 ∧ M 131 i = 0) := fun i => by
    have := l7 i
    have := l8 i
    unfold zR
    omega
  refine c_ground h1 h2 h3 hf (by rw [l2]; omega) (fun i => (lw i).1) ?_
  simp only [l2, (lw c.toNat).2]
  split <;> rename_i g
  · rw [if_pos g] at h
    obtain ⟨M1, hM1⟩ : ∃ M1, M1 = cLv (zup (zup M 29 c.toNat hh) 30 c.toNat n) := ⟨_, rfl⟩
    rw [← hM1] at h ⊢
    have e1 : M1 102 51 = M 102 51 := by rw [hM1]; simp [cLv, cEs, cPl, zup_r]
    have e2 : M1 102 52 = M 102 52 := by rw [hM1]; simp [cLv, cEs, cPl, zup_r]
    have e3 : ∀ i, M1 130 i = M 130 i := by intro i; rw [hM1]; simp [cLv, cEs, cPl, zup_r]
    have e4 : ∀ i, M1 131 i = M 131 i := by intro i; rw [hM1]; simp [cLv, cEs, cPl, zup_r]
    refine r_ground h1 h2 h3 (by rw [e1, e2]; exact w2) (by rw [e1, e2]; exact w1.2) (fun i => by rw [e3, e4]; exact l8 i) ?_
    rw [e1, e2, e3, e4, if_pos g]
    exact q_end (zRd rfl) h
  · rw [if_neg g] at h
    refine r_ground h1 h2 h3 w2 w1.2 l8 ?_
    rw [if_neg g]
    exact q_end (zRd rfl) h
