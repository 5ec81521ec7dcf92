/-! the reader of rules: the state at the head of an expression's loop -/
/-- lines and keeping as they stand, in the reference and in the class -/
def lI (b : Nat) (V M : zM) (L o : Nat) : Prop := (M 102 33 = (L : Int) ∧ V b 8 = (L : Int)) ∧ (M 102 35 = V b 10 ∧ M 102 36 = V b 11) ∧ L ≤ 12 ∧ bkL b (shM V M) L o ∧ (L = 0 → o = 0) ∧ ∀ l', L = l' + 1 → V (b + 5) l' = (o : Int)
def xI (b : Nat) (V M : zM) (o0 c w kn vl L : Nat) (s : List Nat) : Prop :=
  eInv b V M o0 c w kn vl s ∧ pInv b V ∧ (M 102 38 = (kn : Int) ∧ V b 9 = (kn : Int)) ∧
  (M 102 46 = V 1 8 ∧ (∀ i : Nat, (i : Int) < V 1 8 → M 126 i = V 5 i) ∧ M 102 47 = V 5 (V 1 8).toNat ∧ M 102 49 = V 1 10) ∧
  ((vl = 0 ∧ M 102 48 = 1 ∧ V 1 3 = 4) ∨ (vl = 1 ∧ M 102 48 = 0 ∧ V 1 3 = 5)) ∧
  lI b V M L o0 ∧ L < 12 ∧ (M 121 (12 + L) = (o0 : Int) ∧ M 120 (12 + L) = V 1 5 ∧ (1 ≤ V 1 5 ∧ V 1 5 ≤ 4))
theorem xI_b {b : Nat} {V M : zM} {o0 c w kn vl L : Nat} {s : List Nat} (h : xI b V M o0 c w kn vl L s) : kn ≤ 64 ∧ w ≤ 72 ∧ (0 ≤ V 1 8 ∧ V 1 8 ≤ 8) := by
  obtain ⟨x1, x2, x3, x4, x5, x6, x7, x8⟩ := h
  have hd : 4 ≤ V 1 3 := by omega
  obtain ⟨⟨w1, w2⟩, -⟩ := pIn5_w x2 hd
  obtain ⟨e1, -, -⟩ := e_wt x1
  obtain ⟨-, -, -, -, -, -, hq⟩ := x2
  obtain ⟨-, q2, -⟩ := hq hd
  exact ⟨x1.2.1, by omega, q2⟩
