/-! the reader of rules: the run, token by token -/
/-- behind a token: the class's run goes on at a from V and ends in R -/
def mdS (b : Nat) (t : Nat → Int) (n : Nat) (R : Int × zM) (M V : zM) (k a : Nat) : Prop := txQ M t n ∧ a ≤ n ∧ M 102 18 = (a : Int) ∧ rnM b t n k a V = some R
/-- a token is taken by the reference, not yet by the class -/
def tkS (b : Nat) (t : Nat → Int) (n : Nat) (R : Int × zM) (M V : zM) (k a : Nat) : Prop := txQ M t n ∧ a ≤ n ∧ M 102 18 = (lxE t n a : Int) ∧ M 102 21 = (lxP t n a : Int) ∧ tkQ (lxK t n a) (lxN t n a) (M 102 19) (M 102 20) ∧ rnM b t n k a V = some R
theorem lx_31 (t : Nat → Int) (n a : Nat) : lxK t n a ≠ 31 := by
  unfold lxK
  split
  · decide
  · split
    · have r := wrT_r t (lxP t n a) (wh isL t n (lxP t n a)) 77 (Nat.le_refl _)
      omega
    · split
      · decide
      · have r := (sg_rel (t (lxP t n a)) (byD t n (lxP t n a + 1))).1
        omega
theorem tk_k {k v kd w : Int} (h : tkQ k v kd w) (hk : (0 ≤ k ∧ k ≤ 33) ∧ k ≠ 31) : (k = 32 ∧ kd = 0) ∨ ((0 ≤ k ∧ k ≤ 15) ∧ kd = 1 ∧ w = k) ∨ (k = 16 ∧ kd = 2 ∧ nmq w v ∧ 0 ≤ w) ∨ (k = 33 ∧ kd = 4) ∨ ((17 ≤ k ∧ k ≤ 30) ∧ kd = 3 ∧ ((k = 17 ∧ w = 59) ∨ (k = 18 ∧ w = 40) ∨ (k = 19 ∧ w = 41) ∨ (k = 20 ∧ w = 44) ∨ ((21 ≤ k ∧ k ≤ 24) ∧ w = k - 14) ∨ ((25 ≤ k ∧ k ≤ 30) ∧ w = k - 24))) := by
  obtain ⟨h1, h2, h3, h4, h5⟩ := h
  by_cases q1 : k = 32
  · exact Or.inl ⟨q1, h1 q1⟩
  · by_cases q2 : k ≤ 15
    · exact Or.inr (Or.inl ⟨⟨hk.1.1, q2⟩, h2 ⟨hk.1.1, q2⟩⟩)
    · by_cases q3 : k = 16
      · exact Or.inr (Or.inr (Or.inl ⟨q3, h3 q3⟩))
      · by_cases q4 : k = 33
        · exact Or.inr (Or.inr (Or.inr (Or.inl ⟨q4, h4 q4⟩)))
        · obtain ⟨a1, a2⟩ := h5 (by omega)
          refine Or.inr (Or.inr (Or.inr (Or.inr ⟨by omega, a1, ?_⟩)))
          unfold sgW at a2
          by_cases c1 : k = 17
          · rw [if_pos c1] at a2; omega
          · rw [if_neg c1] at a2
            by_cases c2 : k = 18
            · rw [if_pos c2] at a2; omega
            · rw [if_neg c2] at a2
              by_cases c3 : k = 19
              · rw [if_pos c3] at a2; omega
              · rw [if_neg c3] at a2
                by_cases c4 : k = 20
                · rw [if_pos c4] at a2; omega
                · rw [if_neg c4] at a2
                  by_cases c5 : k < 25
                  · rw [if_pos c5] at a2; omega
                  · rw [if_neg c5] at a2; omega
theorem tkS_k {b : Nat} {t : Nat → Int} {n : Nat} {R : Int × zM} {M V : zM} {k a : Nat} (h : tkS b t n R M V k a) : (lxK t n a = 32 ∧ M 102 19 = 0) ∨ ((0 ≤ lxK t n a ∧ lxK t n a ≤ 15) ∧ M 102 19 = 1 ∧ M 102 20 = lxK t n a) ∨ (lxK t n a = 16 ∧ M 102 19 = 2 ∧ nmq (M 102 20) (lxN t n a) ∧ 0 ≤ M 102 20) ∨ (lxK t n a = 33 ∧ M 102 19 = 4) ∨ ((17 ≤ lxK t n a ∧ lxK t n a ≤ 30) ∧ M 102 19 = 3 ∧ ((lxK t n a = 17 ∧ M 102 20 = 59) ∨ (lxK t n a = 18 ∧ M 102 20 = 40) ∨ (lxK t n a = 19 ∧ M 102 20 = 41) ∨ (lxK t n a = 20 ∧ M 102 20 = 44) ∨ ((21 ≤ lxK t n a ∧ lxK t n a ≤ 24) ∧ M 102 20 = lxK t n a - 14) ∨ ((25 ≤ lxK t n a ∧ lxK t n a ≤ 30) ∧ M 102 20 = lxK t n a - 24))) := by
  obtain ⟨h1, h2, h3, h4, h5, h6⟩ := h
  exact tk_k h5 ⟨(lx_r h2).2.2.1, lx_31 t n a⟩
theorem r_takeS {E : zE} {M V : zM} {Q : Int → zM → Prop} {b : Nat} {t : Nat → Int} {n : Nat} {R : Int × zM} {k a : Nat} (h : mdS b t n R M V k a) (hQ : ∀ M', tkS b t n R M' V k a → (∀ x, x ≠ 102 → M' x = M x) → (∀ j, j ≠ 18 → j ≠ 19 → j ≠ 20 → j ≠ 21 → M' 102 j = M 102 j) → Q 0 M') : zP E mX12_take [.inr (.inr 102)] M Q := by
  obtain ⟨h1, h2, h3, h4⟩ := h
  refine r_take h1 h3 h2 (fun kd w q => ?_)
  obtain ⟨e1, e2, e3, e4, -⟩ := rtS_r M (lxE t n a : Nat) kd w (lxP t n a : Nat)
  exact hQ _ ⟨txQ_s h1 _ _ _ _, h2, e1, e4, by rw [e2, e3]; exact q, h4⟩ (fun x hx => rtS_n _ _ _ _ _ hx) (fun j j1 j2 j3 j4 => rtS_t _ _ _ _ _ j1 j2 j3 j4)
/-- the run ends in the fault that M tells -/
def fltS (R : Int × zM) (M : zM) : Prop := R.1 ≠ 0 ∧ R.2 1 1 = R.1 ∧ M 102 15 = R.1 ∧ M 102 16 = R.2 1 2
theorem tk_step {b : Nat} {t : Nat → Int} {n : Nat} {R : Int × zM} {M V : zM} {k a : Nat} (h : tkS b t n R M V k a) (hne : ¬ (lxK t n a = 32 ∧ V 1 3 = 0)) :
    ((stpM b (nxM V t n a)).1 = 0 → ∃ k', k = k' + 1 ∧ mdS b t n R M (zup (stpM b (nxM V t n a)).2 1 1 0) k' (lxE t n a)) ∧ ((stpM b (nxM V t n a)).1 ≠ 0 → fltS R (wgM M (stpM b (nxM V t n a)).1)) := by
  obtain ⟨h1, h2, h3, h4, h5, h6⟩ := h
  have hx := (lx_r (t := t) h2).2.1
  cases k with
  | zero => cases h6
  | succ k =>
    unfold rnM at h6
    rw [if_neg hne] at h6
    refine ⟨fun q => ?_, fun q => ?_⟩
    · rw [if_pos q] at h6
      exact ⟨k, rfl, h1, by omega, h3, h6⟩
    · rw [if_neg q] at h6
      have e : R = ((stpM b (nxM V t n a)).1, zup (zup (stpM b (nxM V t n a)).2 1 1 (stpM b (nxM V t n a)).1) 1 2 (lxP t n a : Nat)) := (Option.some.inj h6).symm
      rw [e]
      unfold wgM
      refine ⟨q, ?_, ?_, ?_⟩
      · dsimp only
        rw [zup_q, if_neg (by decide), zup_q, if_pos ⟨rfl, rfl⟩]
      · rw [zup_q, if_neg (by decide), zup_q, if_pos ⟨rfl, rfl⟩]
      · rw [zup_q, if_pos ⟨rfl, rfl⟩, h4]
        dsimp only
        rw [zup_q, if_pos ⟨rfl, rfl⟩]
theorem r_isSign {E : zE} {M : zM} {Q : Int → zM → Prop} {c : Int} (h1 : 0 ≤ M 102 19 ∧ M 102 19 ≤ 4) (h2 : M 102 19 = 3 → 0 ≤ M 102 20 ∧ M 102 20 ≤ 99) (hc : 0 ≤ c ∧ c ≤ 99) (h : Q (if M 102 19 = 3 ∧ M 102 20 = c then 1 else 0) M) : zP E mX12_isSign [.inr (.inr 102), .inl c] M Q := by
  refine vcX12_isSign _ ?_
  refine ⟨by unfold zR; omega, fun q => ?_, fun q => ⟨⟨by have := h2 q; unfold zR; omega, by unfold zR; omega⟩, fun q2 => ?_, fun q2 => ?_⟩⟩
  · rw [if_neg (fun q2 => q q2.1)] at h; exact h
  · rw [if_neg (fun q3 => q2 q3.2)] at h; exact h
  · rw [if_pos ⟨q, q2⟩] at h; exact h
