/-! pairs of calls: works, look, feed -/
theorem q_whas {x w t : Int} (hx : x = w + 2 * t) (hw : w = 0 ∨ w = 1) (ht : t = 0 ∨ t = 1) {d : Int} (hd : d = 0 ∨ d = 1) : (whas x d ↔ (if d = 0 then w else t) = 1) := by
  unfold whas
  rcases hd with rfl | rfl <;> rcases hw with rfl | rfl <;> rcases ht with rfl | rfl <;> subst hx <;> simp
theorem q_wset {x w t : Int} (hx : x = w + 2 * t) (hw : w = 0 ∨ w = 1) (ht : t = 0 ∨ t = 1) {d : Int} (hd : d = 0 ∨ d = 1) : wset x d = (if d = 0 then (1 - w) + 2 * t else w + 2 * (1 - t)) := by
  unfold wset zbit
  rcases hd with rfl | rfl <;> rcases hw with rfl | rfl <;> rcases ht with rfl | rfl <;> subst hx <;> decide
theorem q_work {E : zE} {k : Nat} {M : zM} {P' : zM → Prop} {c t o : Int} (hA : RelA k M) (hk : k ≤ 600) (h1 : zR c) (ht : t = 0 ∨ t = 1) (ho : o = 0 ∨ o = 1)
    (h : if (0 ≤ c ∧ c < M 102 51 * M 102 52) ∧ (if o = 1 then (if t = 0 then M 130 c.toNat else M 131 c.toNat) = 0 ∧ M 129 c.toNat = 0 ∧ M 102 57 < 4 else (if t = 0 then M 130 c.toNat else M 131 c.toNat) = 1) then
      ∀ M1, M1 = cLv (zup (zup M 31 c.toNat (if t = 0 then o + 2 * M 131 c.toNat else M 130 c.toNat + 2 * o)) 28 5 (M 102 57 + (if o = 0 then -1 else 1))) →
      P' (zup (if t = 0 then zup (zup M1 102 2 0) 130 c.toNat o else zup (zup M1 102 2 0) 131 c.toNat o) 102 57 (M 102 57 + (if o = 0 then -1 else 1))) else P' (zup M 102 2 0)) : zPP E mX11_work mX12_work [.inl c, .inl t, .inl o] M P' := by
  obtain ⟨hf, -, -, -, -, -, hl, ⟨d1, d2, -⟩, -⟩ := hA
  obtain ⟨w1, w2⟩ := wt_r hl
  obtain ⟨l1, l2, l3, l4, l5, l6, l7, l8, l9, l10⟩ := hl
  have b8 := l8 c.toNat
  have hs := q_whas (l7 c.toNat) b8.1 b8.2 ht
  have hset := q_wset (l7 c.toNat) b8.1 b8.2 ht
  have hwk : -10000 ≤ M 102 57 ∧ M 102 57 ≤ 4 := by omega
  have lw : ∀ i, 0 ≤ M 31 i ∧ M 31 i ≤ 3 := fun i => by
    have := l7 i
    have := l8 i
    omega
  have cond : ((0 ≤ c ∧ c < M 28 1) ∧ (if o = 1 then ¬ whas (M 31 c.toNat) t ∧ M 30 c.toNat = 0 ∧ M 28 5 < 4 else whas (M 31 c.toNat) t)) ↔ ((0 ≤ c ∧ c < M 102 51 * M 102 52) ∧ (if o = 1 then (if t = 0 then M 130 c.toNat else M 131 c.toNat) = 0 ∧ M 129 c.toNat = 0 ∧ M 102 57 < 4 else (if t = 0 then M 130 c.toNat else M 131 c.toNat) = 1)) := by
    rw [l2, d1, l6 c.toNat, hs]
    generalize M 102 51 * M 102 52 = WT at *
    grind (splits := 30)
  refine c_work h1 ht ho hf (by rw [l2]; omega) lw (fun i => by rw [l6]; have := l10 i; unfold zR; omega) (by rw [d1]; unfold zR; omega) ⟨fun g => ?_, fun g => ?_⟩
  · rw [cond] at g
    rw [if_pos g] at h
    have e9 : wset (M 31 c.toNat) t = (if t = 0 then o + 2 * M 131 c.toNat else M 130 c.toNat + 2 * o) := by
      rw [hset]
      obtain ⟨-, g⟩ := g
      rcases ht with rfl | rfl <;> rcases ho with rfl | rfl <;> simp at g ⊢ <;> omega
    rw [e9, d1]
    obtain ⟨M1, hM1⟩ : ∃ M1, M1 = cLv (zup (zup M 31 c.toNat (if t = 0 then o + 2 * M 131 c.toNat else M 130 c.toNat + 2 * o)) 28 5 (M 102 57 + (if o = 0 then -1 else 1))) := ⟨_, rfl⟩
    have h := h M1 hM1
    rw [← hM1]
    have z : ∀ a j : Nat, 102 ≤ a → M1 a j = M a j := by
      intro a j ha
      rw [hM1]
      simp only [cLv, cEs, cPl, zup_r]
      repeat (first | rw [if_neg (by omega)] | rfl)
    have z1 : ∀ j, M1 102 j = M 102 j := fun j => z _ _ (by decide)
    have z2 : ∀ j, M1 130 j = M 130 j := fun j => z _ _ (by decide)
    have z3 : ∀ j, M1 131 j = M 131 j := fun j => z _ _ (by decide)
    have z4 : ∀ j, M1 129 j = M 129 j := fun j => z _ _ (by decide)
    refine r_work h1 ht ho (by rw [z1, z1]; exact w2) (by rw [z1, z1]; exact w1.2) (fun i => by rw [z2, z3]; exact l8 i) (fun i => by rw [z4]; exact l10 i) (by rw [z1]; exact hwk) ?_
    rw [z1, z1, z1, z2, z3, z4, if_pos g]
    exact q_end (zRd rfl) h
  · rw [cond] at g
    rw [if_neg g] at h
    refine r_work h1 ht ho w2 w1.2 l8 l10 hwk ?_
    rw [if_neg g]
    exact q_end (zRd rfl) h
theorem q_look {E : zE} {k : Nat} {M : zM} {P' : zM → Prop} {a b : Int} (hA : RelA k M) (h1 : zR a) (h2 : zR b)
    (h : ∀ M', (∀ x, x ≠ 165 → x ≠ 102 → M' x = M x) → (∀ j, j ≠ 2 → M' 102 j = M 102 j) → P' M') : zPK E a b M P' := by
  obtain ⟨hf, -, -, -, -, -, hl, -⟩ := hA
  obtain ⟨w1, w2⟩ := wt_r hl
  obtain ⟨l1, l2, l3, l4, l5, l6, l7, l8, l9, l10⟩ := hl
  have fin : ∀ (M1 : zM) (r v : Int), (∀ x, x ≠ 165 → M1 x = M x) → (if 0 ≤ a ∧ a < M 102 51 * M 102 52 then (if b = 0 ∨ b = 1 ∨ b = 2 then r = 0 ∧ M1 165 0 = (if b = 0 then M 128 a.toNat else if b = 1 then M 129 a.toNat else M 130 a.toNat + 2 * M 131 a.toNat) else r = 2) else r = 1) →
      zP E mX12_look [.inr (.inr 102), .inl a, .inl b] M1 (fun r2 M2 => zP E mX12_thrown [.inr (.inr 102)] M2 (fun r3 M3 => (zR r3 ∧ zR r) ∧ r3 = r ∧ (r = 0 → zR r2 ∧ (zL (M3 165 0) ∧ zL r2) ∧ M3 165 0 = r2) ∧ P' M3)) := by
    intro M1 r v z hr
    have z1 : ∀ j, M1 102 j = M 102 j := fun j => by rw [z _ (by decide)]
    have z2 : ∀ j, M1 130 j = M 130 j := fun j => by rw [z _ (by decide)]
    have z3 : ∀ j, M1 131 j = M 131 j := fun j => by rw [z _ (by decide)]
    have z4 : ∀ j, M1 129 j = M 129 j := fun j => by rw [z _ (by decide)]
    have z5 : ∀ j, M1 128 j = M 128 j := fun j => by rw [z _ (by decide)]
    have hp : ∀ t, P' (zup (zup M1 102 2 0) 102 2 t) := fun t => h _ (fun x g1 g2 => by rw [zup_ne _ _ _ g2, zup_ne _ _ _ g2, z x g1]) (fun j hj => by simp [zup_r, hj, z1])
    have hp0 : P' (zup M1 102 2 0) := h _ (fun x g1 g2 => by rw [zup_ne _ _ _ g2, z x g1]) (fun j hj => by simp [zup_r, hj, z1])
    refine r_look h1 h2 (by rw [z1, z1]; exact w2) (by rw [z1, z1]; exact w1.2) (fun i => by rw [z2, z3]; exact l8 i) ?_
    rw [z1, z1, z2, z3, z4, z5]
    have ok : ∀ x : Int, (0 ≤ x ∧ x ≤ 1000) → r = 0 → M1 165 0 = x → zP E mX12_thrown [.inr (.inr 102)] (zup M1 102 2 0) (fun r3 M3 => (zR r3 ∧ zR r) ∧ r3 = r ∧ (r = 0 → zR x ∧ (zL (M3 165 0) ∧ zL x) ∧ M3 165 0 = x) ∧ P' M3) := by
      intro x hx hr hox
      subst hr
      refine r_thrown ?_
      have e1 : (zup M1 102 2 0) 102 2 = 0 := by simp [zup_r]
      have e2 : (zup M1 102 2 0) 165 0 = x := by rw [zup_ne _ _ _ (by decide)]; exact hox
      rw [e1, e2]
      refine ⟨⟨zRd rfl, zRd rfl⟩, rfl, fun _ => ⟨by unfold zR; omega, ⟨by unfold zL; omega, by unfold zL; omega⟩, rfl⟩, hp0⟩
    by_cases g : 0 ≤ a ∧ a < M 102 51 * M 102 52
    · rw [if_neg (fun q => q g)]
      rw [if_pos g] at hr
      by_cases b0 : b = 0
      · rw [if_pos b0]
        rw [if_pos (Or.inl b0), if_pos b0] at hr
        exact ok _ (by have := l9 a.toNat; omega) hr.1 hr.2
      · rw [if_neg b0]
        by_cases b1 : b = 1
        · rw [if_pos b1]
          rw [if_pos (Or.inr (Or.inl b1)), if_neg b0, if_pos b1] at hr
          exact ok _ (by have := l10 a.toNat; omega) hr.1 hr.2
        · rw [if_neg b1]
          by_cases b2 : b = 2
          · rw [if_pos b2]
            rw [if_pos (Or.inr (Or.inr b2)), if_neg b0, if_neg b1] at hr
            have e8 := l8 a.toNat
            have e9 : M 130 a.toNat + (if M 131 a.toNat = 1 then 2 else 0) = M 130 a.toNat + 2 * M 131 a.toNat := by
              rcases e8.2 with q | q <;> rw [q] <;> simp
            rw [e9]
            exact ok _ (by omega) hr.1 hr.2
          · rw [if_neg b2]
            rw [if_neg (by omega)] at hr
            subst hr
            refine r_thrown ?_
            have e1 : (zup (zup M1 102 2 0) 102 2 2) 102 2 = 2 := by simp [zup_r]
            rw [e1]
            exact ⟨⟨zRd rfl, zRd rfl⟩, rfl, fun q => absurd q (by decide), hp 2⟩
    · rw [if_pos g]
      rw [if_neg g] at hr
      subst hr
      refine r_thrown ?_
      have e1 : (zup (zup M1 102 2 0) 102 2 1) 102 2 = 1 := by simp [zup_r]
      rw [e1]
      exact ⟨⟨zRd rfl, zRd rfl⟩, rfl, fun q => absurd q (by decide), hp 1⟩
  refine look_of (vcL_look _ _ ?_)
  refine vcX_look _ _ ?_
  refine c_lhas h1 (by rw [l2]; omega) ?_
  rw [l2]
  have zz : ∀ (v : Int) x, x ≠ 165 → (zup M 165 0 v) x = M x := fun v x hx => zup_ne _ _ _ hx
  by_cases g : 0 ≤ a ∧ a < M 102 51 * M 102 52
  · rw [if_pos g]
    have g64 : 0 ≤ a ∧ a < 64 := by omega
    refine ⟨zRd rfl, fun _ => ⟨h2, fun q => ⟨g64, ?_, ?_⟩, fun q => ⟨g64, ?_, ?_⟩, fun q => ⟨g64, ?_, ?_⟩, fun q => Or.inr ⟨rfl, fin _ _ 0 (fun _ _ => rfl) ?_⟩⟩, fun hc => absurd hc (by decide)⟩
    · rw [l5]; have := l9 a.toNat; unfold zR; omega
    · rintro M2 rfl
      refine fin _ _ 0 (zz _) ?_
      rw [if_pos g, if_pos (Or.inl q), if_pos q, l5]
      exact ⟨rfl, by simp [zup_r]⟩
    · rw [l6]; have := l10 a.toNat; unfold zR; omega
    · rintro M2 rfl
      refine fin _ _ 0 (zz _) ?_
      rw [if_pos g, if_pos (Or.inr (Or.inl q)), if_neg (by omega), if_pos q, l6]
      exact ⟨rfl, by simp [zup_r]⟩
    · rw [l7]; have := l8 a.toNat; unfold zR; omega
    · rintro M2 rfl
      refine fin _ _ 0 (zz _) ?_
      rw [if_pos g, if_pos (Or.inr (Or.inr q)), if_neg (by omega), if_neg (by omega), l7]
      exact ⟨rfl, by simp [zup_r]⟩
    · rw [if_pos g, if_neg (by omega)]
  · rw [if_neg g]
    refine ⟨zRd rfl, fun hc => absurd rfl hc, fun _ => Or.inl ⟨rfl, fin _ _ 0 (fun _ _ => rfl) ?_⟩⟩
    rw [if_neg g]
/-- a byte of an int, by either shift -/
theorem q_bits (a : BitVec 32) (n : Nat) (h : n ≤ 24) : (a.sshiftRight n) &&& 255#32 = (a >>> n) &&& 255#32 := by
  apply BitVec.eq_of_getLsbD_eq
  intro i hi
  rw [BitVec.getLsbD_and, BitVec.getLsbD_and, BitVec.getLsbD_sshiftRight, BitVec.getLsbD_ushiftRight]
  by_cases h8 : i < 8
  · have : n + i < 32 := by omega
    simp [this, hi, show ¬ 32 ≤ i by omega]
  · have : (255#32).getLsbD i = false := by
      have h9 : ∀ j : Fin 32, 8 ≤ (j : Nat) → (255#32).getLsbD j = false := by decide
      exact h9 ⟨i, hi⟩ (by simpa using h8)
    simp [this]
