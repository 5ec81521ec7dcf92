/-! which cells the parts of RelA look at -/
theorem zup_same {d : Nat → Nat → Bool} {M M0 : zM} {a i : Nat} {v : Int} (hd : d a i = false) (h : ∀ x j, d x j = true → M x j = M0 x j) : ∀ x j, d x j = true → zup M a i v x j = M0 x j := by
  intro x j hx
  rw [zup_r]
  by_cases h1 : x = a
  · subst h1
    by_cases h2 : j = i
    · subst h2
      rw [hx] at hd
      cases hd
    · rw [if_pos rfl, if_neg h2]
      exact h x j hx
  · rw [if_neg h1]
    exact h x j hx
theorem per_refl {d : Nat → Nat → Bool} {M : zM} : ∀ x j, d x j = true → M x j = M x j := fun _ _ _ => rfl
theorem lix_c {M M' : zM} (h1 : ∀ j, M' 105 j = M 105 j) (h2 : ∀ j, M' 106 j = M 106 j) (n : Nat) (a : Int) : lix M' n a = lix M n a := by
  induction n with
  | zero => rfl
  | succ n ih => unfold lix; rw [h1, h2, ih]
def dFix (x j : Nat) : Bool := (x == 33 && [0, 1, 2].contains j) || (x == 34 && [0, 1, 2].contains j) || (x == 66 && [0, 1, 2].contains j)
theorem zFix_c {M M' : zM} (d : ∀ x j, dFix x j = true → M' x j = M x j) (h : zFix M) : zFix M' := by
  unfold zFix at h ⊢
  simp only [d 33 0 rfl, d 33 1 rfl, d 33 2 rfl, d 34 0 rfl, d 34 1 rfl, d 34 2 rfl, d 66 0 rfl, d 66 1 rfl, d 66 2 rfl]
  exact h
def dTape (x j : Nat) : Bool := [3, 103].contains x || (x == 2 && [1].contains j) || (x == 102 && [1].contains j)
theorem rTape_c {M M' : zM} (d : ∀ x j, dTape x j = true → M' x j = M x j) (h : rTape M) : rTape M' := by
  unfold rTape at h ⊢
  simp only [d 2 1 rfl, d 102 1 rfl, (fun j => d 3 j rfl : ∀ j, M' 3 j = M 3 j), (fun j => d 103 j rfl : ∀ j, M' 103 j = M 103 j)]
  exact h
def dFlt (x j : Nat) : Bool := (x == 1 && [1, 2].contains j) || (x == 102 && [15, 16].contains j)
theorem rFlt_c {M M' : zM} (d : ∀ x j, dFlt x j = true → M' x j = M x j) (h : rFlt M) : rFlt M' := by
  unfold rFlt at h ⊢
  simp only [d 1 1 rfl, d 1 2 rfl, d 102 15 rfl, d 102 16 rfl]
  exact h
def dNow (x j : Nat) : Bool := (x == 0 && [0].contains j) || (x == 102 && [3].contains j)
theorem rNow_c {M M' : zM} (d : ∀ x j, dNow x j = true → M' x j = M x j) (h : rNow M) : rNow M' := by
  unfold rNow at h ⊢
  simp only [d 0 0 rfl, d 102 3 rfl]
  exact h
def dPst (x j : Nat) : Bool := [21, 104].contains x || (x == 20 && [1].contains j) || (x == 102 && [4].contains j)
theorem rPst_c {M M' : zM} (d : ∀ x j, dPst x j = true → M' x j = M x j) (h : rPst M) : rPst M' := by
  unfold rPst at h ⊢
  simp only [d 20 1 rfl, d 102 4 rfl, (fun j => d 21 j rfl : ∀ j, M' 21 j = M 21 j), (fun j => d 104 j rfl : ∀ j, M' 104 j = M 104 j)]
  exact h
def dRdg (x j : Nat) : Bool := [22, 23, 24, 25, 105, 106, 107, 108, 109].contains x || (x == 20 && [6].contains j) || (x == 102 && [6].contains j)
theorem rRdg_c {M M' : zM} (d : ∀ x j, dRdg x j = true → M' x j = M x j) (h : rRdg M) : rRdg M' := by
  have el := lix_c (M := M) (M' := M') (fun j => d 105 j rfl) (fun j => d 106 j rfl)
  unfold rRdg rdOk at h ⊢
  simp only [d 20 6 rfl, d 102 6 rfl, (fun j => d 22 j rfl : ∀ j, M' 22 j = M 22 j), (fun j => d 23 j rfl : ∀ j, M' 23 j = M 23 j), (fun j => d 24 j rfl : ∀ j, M' 24 j = M 24 j), (fun j => d 25 j rfl : ∀ j, M' 25 j = M 25 j), (fun j => d 105 j rfl : ∀ j, M' 105 j = M 105 j), (fun j => d 106 j rfl : ∀ j, M' 106 j = M 106 j), (fun j => d 107 j rfl : ∀ j, M' 107 j = M 107 j), (fun j => d 108 j rfl : ∀ j, M' 108 j = M 108 j), (fun j => d 109 j rfl : ∀ j, M' 109 j = M 109 j), el]
  exact h
def dLnd (x j : Nat) : Bool := [29, 30, 31, 128, 129, 130, 131].contains x || (x == 28 && [0, 1].contains j) || (x == 102 && [51, 52].contains j)
theorem rLnd_c {M M' : zM} (d : ∀ x j, dLnd x j = true → M' x j = M x j) (h : rLnd M) : rLnd M' := by
  unfold rLnd at h ⊢
  simp only [d 28 0 rfl, d 28 1 rfl, d 102 51 rfl, d 102 52 rfl, (fun j => d 29 j rfl : ∀ j, M' 29 j = M 29 j), (fun j => d 30 j rfl : ∀ j, M' 30 j = M 30 j), (fun j => d 31 j rfl : ∀ j, M' 31 j = M 31 j), (fun j => d 128 j rfl : ∀ j, M' 128 j = M 128 j), (fun j => d 129 j rfl : ∀ j, M' 129 j = M 129 j), (fun j => d 130 j rfl : ∀ j, M' 130 j = M 130 j), (fun j => d 131 j rfl : ∀ j, M' 131 j = M 131 j)]
  exact h
def dWks (x j : Nat) : Bool := [32, 162].contains x || (x == 28 && [5, 7].contains j) || (x == 102 && [57, 96].contains j)
theorem rWks_c {k : Nat} {M M' : zM} (d : ∀ x j, dWks x j = true → M' x j = M x j) (h : rWks k M) : rWks k M' := by
  unfold rWks at h ⊢
  simp only [d 28 5 rfl, d 28 7 rfl, d 102 57 rfl, d 102 96 rfl, (fun j => d 32 j rfl : ∀ j, M' 32 j = M 32 j), (fun j => d 162 j rfl : ∀ j, M' 162 j = M 162 j)]
  exact h
def dWld (x j : Nat) : Bool := [132, 133, 134, 135, 136].contains x || (x == 0 && [11].contains j) || (x == 69 && [0, 1, 2, 3, 4].contains j) || (x == 79 && [0, 1, 2, 3, 4].contains j) || (x == 89 && [0, 1, 2, 3, 4].contains j) || (x == 102 && [51, 52, 58].contains j)
theorem rWld_c {M M' : zM} (d : ∀ x j, dWld x j = true → M' x j = M x j) (h : rWld M) : rWld M' := by
  have e0 : ∀ w, M' (wid w) 0 = M (wid w) 0 := fun w => by unfold wid; split; exact d 69 0 rfl; split; exact d 79 0 rfl; exact d 89 0 rfl
  have e1 : ∀ w, M' (wid w) 1 = M (wid w) 1 := fun w => by unfold wid; split; exact d 69 1 rfl; split; exact d 79 1 rfl; exact d 89 1 rfl
  have e2 : ∀ w, M' (wid w) 2 = M (wid w) 2 := fun w => by unfold wid; split; exact d 69 2 rfl; split; exact d 79 2 rfl; exact d 89 2 rfl
  have e3 : ∀ w, M' (wid w) 3 = M (wid w) 3 := fun w => by unfold wid; split; exact d 69 3 rfl; split; exact d 79 3 rfl; exact d 89 3 rfl
  have e4 : ∀ w, M' (wid w) 4 = M (wid w) 4 := fun w => by unfold wid; split; exact d 69 4 rfl; split; exact d 79 4 rfl; exact d 89 4 rfl
  unfold rWld at h ⊢
  simp only [d 0 11 rfl, d 102 51 rfl, d 102 52 rfl, d 102 58 rfl, (fun j => d 132 j rfl : ∀ j, M' 132 j = M 132 j), (fun j => d 133 j rfl : ∀ j, M' 133 j = M 133 j), (fun j => d 134 j rfl : ∀ j, M' 134 j = M 134 j), (fun j => d 135 j rfl : ∀ j, M' 135 j = M 135 j), (fun j => d 136 j rfl : ∀ j, M' 136 j = M 136 j), e0, e1, e2, e3, e4]
  exact h
def dPlc (x j : Nat) : Bool := [45, 46, 47, 48, 49, 142, 143, 144, 145, 146, 147].contains x || (x == 44 && [6].contains j) || (x == 102 && [51, 52, 69].contains j)
theorem rPlc_c {M M' : zM} (d : ∀ x j, dPlc x j = true → M' x j = M x j) (h : rPlc M) : rPlc M' := by
  unfold rPlc at h ⊢
  simp only [d 44 6 rfl, d 102 51 rfl, d 102 52 rfl, d 102 69 rfl, (fun j => d 45 j rfl : ∀ j, M' 45 j = M 45 j), (fun j => d 46 j rfl : ∀ j, M' 46 j = M 46 j), (fun j => d 47 j rfl : ∀ j, M' 47 j = M 47 j), (fun j => d 48 j rfl : ∀ j, M' 48 j = M 48 j), (fun j => d 49 j rfl : ∀ j, M' 49 j = M 49 j), (fun j => d 142 j rfl : ∀ j, M' 142 j = M 142 j), (fun j => d 143 j rfl : ∀ j, M' 143 j = M 143 j), (fun j => d 144 j rfl : ∀ j, M' 144 j = M 144 j), (fun j => d 145 j rfl : ∀ j, M' 145 j = M 145 j), (fun j => d 146 j rfl : ∀ j, M' 146 j = M 146 j), (fun j => d 147 j rfl : ∀ j, M' 147 j = M 147 j)]
  exact h
def dRds (x j : Nat) : Bool := [51, 52, 53, 54, 55, 56, 148, 149, 150, 151, 152, 153].contains x || (x == 44 && [13].contains j) || (x == 102 && [51, 52, 69, 76].contains j)
theorem rRds_c {M M' : zM} (d : ∀ x j, dRds x j = true → M' x j = M x j) (h : rRds M) : rRds M' := by
  unfold rRds at h ⊢
  simp only [d 44 13 rfl, d 102 51 rfl, d 102 52 rfl, d 102 69 rfl, d 102 76 rfl, (fun j => d 51 j rfl : ∀ j, M' 51 j = M 51 j), (fun j => d 52 j rfl : ∀ j, M' 52 j = M 52 j), (fun j => d 53 j rfl : ∀ j, M' 53 j = M 53 j), (fun j => d 54 j rfl : ∀ j, M' 54 j = M 54 j), (fun j => d 55 j rfl : ∀ j, M' 55 j = M 55 j), (fun j => d 56 j rfl : ∀ j, M' 56 j = M 56 j), (fun j => d 148 j rfl : ∀ j, M' 148 j = M 148 j), (fun j => d 149 j rfl : ∀ j, M' 149 j = M 149 j), (fun j => d 150 j rfl : ∀ j, M' 150 j = M 150 j), (fun j => d 151 j rfl : ∀ j, M' 151 j = M 151 j), (fun j => d 152 j rfl : ∀ j, M' 152 j = M 152 j), (fun j => d 153 j rfl : ∀ j, M' 153 j = M 153 j)]
  exact h
def dWnd (x j : Nat) : Bool := [67, 68, 163, 164].contains x
theorem rWnd_c {M M' : zM} (d : ∀ x j, dWnd x j = true → M' x j = M x j) (h : rWnd M) : rWnd M' := by
  unfold rWnd at h ⊢
  simp only [(fun j => d 67 j rfl : ∀ j, M' 67 j = M 67 j), (fun j => d 68 j rfl : ∀ j, M' 68 j = M 68 j), (fun j => d 163 j rfl : ∀ j, M' 163 j = M 163 j), (fun j => d 164 j rfl : ∀ j, M' 164 j = M 164 j)]
  exact h
def dBks (x j : Nat) : Bool := (x == 0 && [2, 3].contains j) || (x == 6 && [8, 9, 10].contains j) || (x == 13 && [8, 9, 10].contains j) || (x == 102 && [32, 34, 37].contains j)
theorem rBks_c {M M' : zM} (d : ∀ x j, dBks x j = true → M' x j = M x j) (h : rBks M) : rBks M' := by
  unfold rBks at h ⊢
  simp only [d 0 2 rfl, d 0 3 rfl, d 102 32 rfl, d 102 34 rfl, d 102 37 rfl]
  have e : ∀ b : Int, (b = 6 ∨ b = 13) → M' b.toNat 8 = M b.toNat 8 ∧ M' b.toNat 9 = M b.toNat 9 ∧ M' b.toNat 10 = M b.toNat 10 := by
    rintro b (rfl | rfl)
    · exact ⟨d 6 8 rfl, d 6 9 rfl, d 6 10 rfl⟩
    · exact ⟨d 13 8 rfl, d 13 9 rfl, d 13 10 rfl⟩
  obtain ⟨e8, e9, e10⟩ := e (M 0 2) (h.1.elim (fun q => Or.inl q.1) (fun q => Or.inr q.1))
  rw [e8, e9, e10]
  exact h
def dAll (x j : Nat) : Bool := dFix x j || dTape x j || dFlt x j || dNow x j || dPst x j || dRdg x j || dLnd x j || dWks x j || dWld x j || dPlc x j || dRds x j || dWnd x j || dBks x j
theorem rel_c {k : Nat} {M M' : zM} (d : ∀ x j, dAll x j = true → M' x j = M x j) (hk : rKpt M') (h : RelA k M) : RelA k M' := by
  obtain ⟨h0, h1, h2, h3, h4, h5, h6, h7, h8, h9, h10, h11, h12, -⟩ := h
  have s0 : ∀ x j, dFix x j = true → M' x j = M x j := by
    intro x j hx
    exact d x j (by unfold dAll; rw [hx]; simp only [Bool.or_true, Bool.true_or])
  have s1 : ∀ x j, dTape x j = true → M' x j = M x j := by
    intro x j hx
    exact d x j (by unfold dAll; rw [hx]; simp only [Bool.or_true, Bool.true_or])
  have s2 : ∀ x j, dFlt x j = true → M' x j = M x j := by
    intro x j hx
    exact d x j (by unfold dAll; rw [hx]; simp only [Bool.or_true, Bool.true_or])
  have s3 : ∀ x j, dNow x j = true → M' x j = M x j := by
    intro x j hx
    exact d x j (by unfold dAll; rw [hx]; simp only [Bool.or_true, Bool.true_or])
  have s4 : ∀ x j, dPst x j = true → M' x j = M x j := by
    intro x j hx
    exact d x j (by unfold dAll; rw [hx]; simp only [Bool.or_true, Bool.true_or])
  have s5 : ∀ x j, dRdg x j = true → M' x j = M x j := by
    intro x j hx
    exact d x j (by unfold dAll; rw [hx]; simp only [Bool.or_true, Bool.true_or])
  have s6 : ∀ x j, dLnd x j = true → M' x j = M x j := by
    intro x j hx
    exact d x j (by unfold dAll; rw [hx]; simp only [Bool.or_true, Bool.true_or])
  have s7 : ∀ x j, dWks x j = true → M' x j = M x j := by
    intro x j hx
    exact d x j (by unfold dAll; rw [hx]; simp only [Bool.or_true, Bool.true_or])
  have s8 : ∀ x j, dWld x j = true → M' x j = M x j := by
    intro x j hx
    exact d x j (by unfold dAll; rw [hx]; simp only [Bool.or_true, Bool.true_or])
  have s9 : ∀ x j, dPlc x j = true → M' x j = M x j := by
    intro x j hx
    exact d x j (by unfold dAll; rw [hx]; simp only [Bool.or_true, Bool.true_or])
  have s10 : ∀ x j, dRds x j = true → M' x j = M x j := by
    intro x j hx
    exact d x j (by unfold dAll; rw [hx]; simp only [Bool.or_true, Bool.true_or])
  have s11 : ∀ x j, dWnd x j = true → M' x j = M x j := by
    intro x j hx
    exact d x j (by unfold dAll; rw [hx]; simp only [Bool.or_true, Bool.true_or])
  have s12 : ∀ x j, dBks x j = true → M' x j = M x j := by
    intro x j hx
    exact d x j (by unfold dAll; rw [hx]; simp only [Bool.or_true, Bool.true_or])
  exact ⟨zFix_c s0 h0, rTape_c s1 h1, rFlt_c s2 h2, rNow_c s3 h3, rPst_c s4 h4, rRdg_c s5 h5, rLnd_c s6 h6, rWks_c s7 h7, rWld_c s8 h8, rPlc_c s9 h9, rRds_c s10 h10, rWnd_c s11 h11, rBks_c s12 h12, hk⟩
