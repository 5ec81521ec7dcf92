/-! how the class's memory stands to the reference's: all but what is kept of answers -/
def rTape (M : zM) : Prop := M 2 1 = M 102 1 ∧ (0 ≤ M 102 1 ∧ M 102 1 ≤ 500) ∧ (∀ i : Nat, (i : Int) < M 102 1 → M 3 i = M 103 i) ∧ (∀ i, 0 ≤ M 103 i ∧ M 103 i ≤ 255) ∧ (∀ i, 0 ≤ M 3 i ∧ M 3 i ≤ 255)
def rFlt (M : zM) : Prop := M 1 1 = M 102 15 ∧ M 1 2 = M 102 16 ∧ (0 ≤ M 102 15 ∧ M 102 15 ≤ 3) ∧ (-1 ≤ M 102 16 ∧ M 102 16 ≤ 500)
def rNow (M : zM) : Prop := M 0 0 = M 102 3 ∧ (0 ≤ M 102 3 ∧ M 102 3 ≤ 99)
def rPst (M : zM) : Prop := M 20 1 = M 102 4 ∧ (0 ≤ M 102 4 ∧ M 102 4 ≤ 8) ∧ (∀ i, M 21 i = M 104 i) ∧ (∀ i, 0 ≤ M 104 i ∧ M 104 i ≤ 3)
/-- the last reading of a place among the first n -/
def lix (M : zM) : Nat → Int → Int
  | 0, _ => -1
  | n + 1, at_ => if 100 * M 105 n + M 106 n = at_ then n else lix M n at_
def rRdg (M : zM) : Prop := M 20 6 = M 102 6 ∧ rdOk M ∧ (∀ i, M 24 i = M 108 i) ∧ (∀ i : Nat, (i : Int) < M 102 6 → M 25 i = (if M 109 i = 1 then -10000 else M 107 i)) ∧
  (∀ i : Nat, (i : Int) < M 102 6 → M 23 i = lix M i (100 * M 105 i + M 106 i)) ∧ (∀ j : Nat, j < 800 → M 22 j = lix M (M 102 6).toNat j)
def rLnd (M : zM) : Prop := M 28 0 = M 102 51 ∧ M 28 1 = M 102 51 * M 102 52 ∧ (2 ≤ M 102 51 ∧ M 102 51 ≤ 8) ∧ (2 ≤ M 102 52 ∧ M 102 52 ≤ 8) ∧ (∀ i, M 29 i = M 128 i) ∧ (∀ i, M 30 i = M 129 i) ∧ (∀ i, M 31 i = M 130 i + 2 * M 131 i) ∧
  (∀ i, (M 130 i = 0 ∨ M 130 i = 1) ∧ (M 131 i = 0 ∨ M 131 i = 1)) ∧ (∀ i, 0 ≤ M 128 i ∧ M 128 i ≤ 999) ∧ (∀ i, 0 ≤ M 129 i ∧ M 129 i ≤ 99)
def rWks (k : Nat) (M : zM) : Prop := M 28 5 = M 102 57 ∧ (-(k : Int) ≤ M 102 57 ∧ M 102 57 ≤ 4) ∧ M 28 7 = M 102 96 ∧ (0 ≤ M 102 96 ∧ M 102 96 ≤ 6) ∧ (∀ i, M 32 i = M 162 i) ∧ (∀ i, 0 ≤ M 162 i ∧ M 162 i < 64)
/-- the class's three worlds -/
def wid (w : Nat) : Nat := if w = 0 then 69 else if w = 1 then 79 else 89
def rWld (M : zM) : Prop := M 0 11 = M 102 58 ∧ (0 ≤ M 102 58 ∧ M 102 58 ≤ 3) ∧
  (∀ w : Nat, w < 3 → M (wid w) 0 = M 132 w ∧ M (wid w) 1 = M 133 w ∧ M (wid w) 2 = M 134 w ∧ M (wid w) 3 = M 135 w ∧ M (wid w) 4 = M 136 w) ∧
  (∀ w : Nat, (w : Int) < M 102 58 → (0 ≤ M 132 w ∧ M 132 w ≤ 99) ∧ (0 ≤ M 133 w ∧ M 133 w < M 102 51 * M 102 52) ∧ (1 ≤ M 134 w ∧ M 134 w ≤ 99) ∧ (1 ≤ M 135 w ∧ M 135 w ≤ 12) ∧ (1 ≤ M 136 w ∧ M 136 w ≤ 99))
def rPlc (M : zM) : Prop := M 44 6 = M 102 69 ∧ (0 ≤ M 102 69 ∧ M 102 69 ≤ 8) ∧
  (∀ p : Nat, (p : Int) < M 102 69 → (M 142 p = 1 ∧ M 45 p = M 143 p ∧ M 46 p = M 144 p ∧ M 47 p = M 145 p ∧ M 48 p = M 146 p ∧ M 49 p = 0 ∧ (0 ≤ M 143 p ∧ M 143 p < M 102 51 * M 102 52) ∧ (1 ≤ M 144 p ∧ M 144 p ≤ 999) ∧ (1 ≤ M 145 p ∧ M 145 p ≤ 4) ∧ (0 ≤ M 146 p ∧ M 146 p ≤ 5))
    ∨ (M 142 p = 0 ∧ M 45 p = -1 ∧ M 46 p = 0 ∧ M 49 p = M 147 p ∧ (0 ≤ M 147 p ∧ M 147 p ≤ 9999))) ∧ (∀ p, zR (M 45 p))
def rRds (M : zM) : Prop := M 44 13 = M 102 76 ∧ (0 ≤ M 102 76 ∧ M 102 76 ≤ 14) ∧
  (∀ r : Nat, (r : Int) < M 102 76 → M 51 r = M 148 r ∧ M 52 r = M 149 r ∧ M 53 r = M 150 r ∧ M 54 r = M 151 r ∧ M 55 r = M 152 r ∧ M 56 r = M 153 r ∧
    (0 ≤ M 148 r ∧ M 148 r < M 102 69) ∧ (0 ≤ M 149 r ∧ M 149 r < M 102 69) ∧ M 148 r ≠ M 149 r ∧ (1 ≤ M 150 r ∧ M 150 r ≤ 5) ∧ (1 ≤ M 151 r ∧ M 151 r ≤ 999) ∧ (1 ≤ M 152 r ∧ M 152 r ≤ 6) ∧ (M 153 r = -1 ∨ (0 ≤ M 153 r ∧ M 153 r < M 102 51 * M 102 52)))
def rWnd (M : zM) : Prop := (∀ i, M 67 i = M 163 i) ∧ (∀ i, M 68 i = M 164 i) ∧ (∀ i, 0 ≤ M 163 i ∧ M 163 i ≤ 7) ∧ (∀ i, 0 ≤ M 164 i ∧ M 164 i ≤ 7)
/-- the books: which is in force, and the numbers that count() shows -/
def rBks (M : zM) : Prop := ((M 0 2 = 6 ∧ M 0 3 = 13) ∨ (M 0 2 = 13 ∧ M 0 3 = 6)) ∧ M (M 0 2).toNat 8 = M 102 32 ∧ M (M 0 2).toNat 10 = M 102 34 ∧ M (M 0 2).toNat 9 = M 102 37 ∧ (0 ≤ M 102 32 ∧ M 102 32 ≤ 12) ∧ (0 ≤ M 102 34 ∧ M 102 34 ≤ 24) ∧ (0 ≤ M 102 37 ∧ M 102 37 ≤ 64)
/-- what the class keeps: which are in force -/
def rKpt (M : zM) : Prop := (0 ≤ M 0 6 ∧ M 0 6 ≤ 100) ∧ (M 0 7 = 0 ∨ M 0 7 = 1)
def RelA (k : Nat) (M : zM) : Prop := zFix M ∧ rTape M ∧ rFlt M ∧ rNow M ∧ rPst M ∧ rRdg M ∧ rLnd M ∧ rWks k M ∧ rWld M ∧ rPlc M ∧ rRds M ∧ rWnd M ∧ rBks M ∧ rKpt M
theorem wt_r {M : zM} (h : rLnd M) : (4 ≤ M 102 51 * M 102 52 ∧ M 102 51 * M 102 52 ≤ 64) ∧ zR (M 102 51 * M 102 52) := by
  obtain ⟨-, -, h1, h2, -⟩ := h
  have h3 : M 102 51 = 2 ∨ M 102 51 = 3 ∨ M 102 51 = 4 ∨ M 102 51 = 5 ∨ M 102 51 = 6 ∨ M 102 51 = 7 ∨ M 102 51 = 8 := by omega
  rcases h3 with h3 | h3 | h3 | h3 | h3 | h3 | h3 <;> rw [h3] <;> (unfold zR; omega)
