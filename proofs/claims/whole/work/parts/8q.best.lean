/-! BEST, purely -/
abbrev zS4 : Type := Int × Int × Int × Int
theorem zup_q (M : zM) (a i : Nat) (v : Int) (x j : Nat) : zup M a i v x j = if x = a ∧ j = i then v else M x j := by
  rw [zup_r]
  by_cases h1 : x = a
  · by_cases h2 : j = i
    · rw [if_pos h1, if_pos h2, if_pos ⟨h1, h2⟩]
    · rw [if_pos h1, if_neg h2, if_neg (fun q => h2 q.2), h1]
  · rw [if_neg h1, if_neg (fun q => h1 q.1)]
def cwk (M : zM) (a : Nat) : Nat := (M 162 (a / 2)).toNat
def wtr (a : Nat) : Nat := if a % 2 = 1 then 131 else 130
theorem wtr_c (a : Nat) : (a % 2 = 1 ∧ wtr a = 131) ∨ (a % 2 = 0 ∧ wtr a = 130) := by
  unfold wtr
  by_cases q : a % 2 = 1
  · rw [if_pos q]; exact Or.inl ⟨q, rfl⟩
  · rw [if_neg q]; exact Or.inr ⟨by omega, rfl⟩
/-- the work of a number put, on both sides -/
def pb (M : zM) (a : Nat) : zM := zup (zup (zup (zup M (wtr a) (cwk M a) 1) 102 57 (M 102 57 + 1)) 31 (cwk M a) (M 31 (cwk M a) + (if a % 2 = 1 then 2 else 1))) 28 5 (M 28 5 + 1)
theorem pb_q (M : zM) (a x j : Nat) : pb M a x j = if x = 28 ∧ j = 5 then M 28 5 + 1 else if x = 31 ∧ j = cwk M a then M 31 (cwk M a) + (if a % 2 = 1 then 2 else 1) else if x = 102 ∧ j = 57 then M 102 57 + 1 else if x = wtr a ∧ j = cwk M a then 1 else M x j := by
  unfold pb
  simp only [zup_q]
theorem pb_n {M : zM} {a x j : Nat} (h1 : x ≠ 130) (h2 : x ≠ 131) (h3 : x ≠ 31) (h4 : x ≠ 102 ∨ j ≠ 57) (h5 : x ≠ 28 ∨ j ≠ 5) : pb M a x j = M x j := by
  have w := wtr_c a
  rw [pb_q, if_neg (by omega), if_neg (by omega), if_neg (by omega), if_neg (by omega)]
theorem pb_a {M : zM} {a x : Nat} (h1 : x ≠ 130) (h2 : x ≠ 131) (h3 : x ≠ 31) (h4 : x ≠ 102) (h5 : x ≠ 28) : pb M a x = M x := funext fun j => pb_n h1 h2 h3 (Or.inl h4) (Or.inl h5)
theorem pb_same {d : Nat → Nat → Bool} {M : zM} {a : Nat} (h1 : ∀ j, d 130 j = false) (h2 : ∀ j, d 131 j = false) (h3 : ∀ j, d 31 j = false) (h4 : d 102 57 = false) (h5 : d 28 5 = false) : ∀ x j, d x j = true → pb M a x j = M x j := fun x j hx => by
  refine pb_n (fun q => ?_) (fun q => ?_) (fun q => ?_) ?_ ?_
  · rw [q, h1] at hx; cases hx
  · rw [q, h2] at hx; cases hx
  · rw [q, h3] at hx; cases hx
  · by_cases q : x = 102
    · refine Or.inr (fun q2 => ?_)
      rw [q, q2, h4] at hx; cases hx
    · exact Or.inl q
  · by_cases q : x = 28
    · refine Or.inr (fun q2 => ?_)
      rw [q, q2, h5] at hx; cases hx
    · exact Or.inl q
abbrev mayP (M : zM) (a : Nat) : Prop := M (wtr a) (cwk M a) = 0 ∧ M 129 (cwk M a) = 0 ∧ M 102 57 < 4
/-- the same but for works -/
def bw (M M' : zM) : Prop := ∀ x j, 102 ≤ x → x ≠ 130 → x ≠ 131 → (x ≠ 102 ∨ j ≠ 57) → dNb x j = false → M' x j = M x j
theorem bw_bs {M M' : zM} (h : bs M M') : bw M M' := fun x j hx _ _ _ hd => h x j hx hd
theorem bw_pb (M : zM) (a : Nat) : bw M (pb M a) := fun x j hx h1 h2 h3 _ => pb_n h1 h2 (by omega) h3 (Or.inl (by omega))
theorem bw_t {M M' M2 : zM} (h : bw M M') (h2 : bw M' M2) : bw M M2 := fun x j hx a b c hd => (h2 x j hx a b c hd).trans (h x j hx a b c hd)
theorem bw_eq {M M' : zM} (h : bw M M') : (∀ k, vEq M M' k) ∧ bEq M M' := by
  have g : ∀ y, 102 < y → y ≠ 130 → y ≠ 131 → (∀ j, dNb y j = false) → M' y = M y := fun y hy a b hd => funext fun j => h y j (by omega) a b (Or.inl (by omega)) (hd j)
  have t : ∀ j, j ≠ 57 → dNb 102 j = false → M' 102 j = M 102 j := fun j hj hd => h 102 j (by decide) (by decide) (by decide) (Or.inr hj) hd
  have er : M' 102 6 = M 102 6 := t _ (by decide) rfl
  refine ⟨fun k => ⟨fun a => ?_, g _ (by decide) (by decide) (by decide) (fun j => rfl), t _ (by decide) rfl⟩, t _ (by decide) rfl, fun y hy => ?_⟩
  · rw [er]
    exact kn_congr (g 108 (by decide) (by decide) (by decide) (fun j => rfl)) (g 105 (by decide) (by decide) (by decide) (fun j => rfl)) (g 106 (by decide) (by decide) (by decide) (fun j => rfl)) (g 109 (by decide) (by decide) (by decide) (fun j => rfl)) (g 107 (by decide) (by decide) (by decide) (fun j => rfl)) ..
  · rcases hy with hy | hy | hy | hy | hy | hy | hy | hy | hy | hy <;> rw [hy] <;> exact g _ (by decide) (by decide) (by decide) (fun j => rfl)
theorem bw_wf {M M' : zM} (h : bw M M') : wfF M' = wfF M := funext fun p => wfF_e (bw_eq h) (funext fun j => h 145 j (by decide) (by decide) (by decide) (Or.inl (by decide)) rfl) (funext fun j => h 146 j (by decide) (by decide) (by decide) (Or.inl (by decide)) rfl) p
theorem bw_lvl {M M' : zM} (h : bw M M') (n : Nat) : lvlF M' n = lvlF M n := by
  have e : (fun i : Nat => rawF M' (i : Nat) (i : Nat)) = (fun i : Nat => rawF M (i : Nat) (i : Nat)) := funext fun i => rawF_e ((bw_eq h).1 _) (bw_eq h).2 _
  unfold lvlF
  rw [e, h 102 34 (by decide) (by decide) (by decide) (Or.inr (by decide)) rfl]
theorem bw_nt {M M' : zM} (h : bw M M') : ntEq M M' := by
  refine ⟨h _ _ (by decide) (by decide) (by decide) (Or.inr (by decide)) rfl, h _ _ (by decide) (by decide) (by decide) (Or.inr (by decide)) rfl, fun y hy => ?_⟩
  rcases hy with hy | hy | hy | hy | hy | hy | hy | hy | hy | hy | hy <;> rw [hy] <;> exact funext fun j => h _ j (by decide) (by decide) (by decide) (Or.inl (by decide)) rfl
theorem bw_ap {M M' : zM} (h : bw M M') (n : Nat) : ap M' n = ap M n := by
  induction n with
  | zero => rfl
  | succ n ih => unfold ap; rw [ih, h 142 n (by decide) (by decide) (by decide) (Or.inl (by decide)) rfl, h 144 n (by decide) (by decide) (by decide) (Or.inl (by decide)) rfl]
theorem refOk_pb {M : zM} {a : Nat} (h : refOk M) : refOk (pb M a) := by
  have w := wtr_c a
  have g : ∀ y, 102 < y → y ≠ 130 → y ≠ 131 → pb M a y = M y := fun y hy h1 h2 => pb_a h1 h2 (by omega) (by omega) (by omega)
  have t : ∀ j, j ≠ 57 → pb M a 102 j = M 102 j := fun j hj => pb_n (by decide) (by decide) (by decide) (Or.inr hj) (Or.inl (by decide))
  have w0 : ∀ i, (pb M a 130 i = 1 ∨ pb M a 130 i = M 130 i) ∧ (pb M a 131 i = 1 ∨ pb M a 131 i = M 131 i) := fun i => by
    constructor
    · rw [pb_q, if_neg (by omega), if_neg (by omega), if_neg (by omega)]
      split
      · exact Or.inl rfl
      · exact Or.inr rfl
    · rw [pb_q, if_neg (by omega), if_neg (by omega), if_neg (by omega)]
      split
      · exact Or.inl rfl
      · exact Or.inr rfl
  obtain ⟨h1, h2, h3, h4, h5, h6, h7⟩ := h
  unfold refOk
  rw [t 51 (by decide), t 52 (by decide), t 58 (by decide), t 69 (by decide), t 76 (by decide), g 128 (by decide) (by decide) (by decide), g 129 (by decide) (by decide) (by decide), g 132 (by decide) (by decide) (by decide), g 133 (by decide) (by decide) (by decide), g 134 (by decide) (by decide) (by decide), g 135 (by decide) (by decide) (by decide), g 136 (by decide) (by decide) (by decide), g 142 (by decide) (by decide) (by decide), g 143 (by decide) (by decide) (by decide), g 144 (by decide) (by decide) (by decide), g 145 (by decide) (by decide) (by decide), g 146 (by decide) (by decide) (by decide), g 147 (by decide) (by decide) (by decide), g 148 (by decide) (by decide) (by decide), g 149 (by decide) (by decide) (by decide), g 150 (by decide) (by decide) (by decide), g 151 (by decide) (by decide) (by decide), g 152 (by decide) (by decide) (by decide), g 153 (by decide) (by decide) (by decide)]
  refine ⟨h1, fun i => ?_, h3, h4, h5, h6, h7⟩
  have := h2 i
  have := w0 i
  omega
theorem bs_pb {M M' : zM} {a : Nat} (h : bs M M') : bs (pb M a) (pb M' a) := fun x j hx hd => by
  have e := h x j hx hd
  have ec : cwk M' a = cwk M a := by unfold cwk; rw [h 162 _ (by decide) rfl]
  have ew : M' 102 57 = M 102 57 := h _ _ (by decide) rfl
  have l := pb_q M' a x j
  have r := pb_q M a x j
  rw [if_neg (by omega), if_neg (by omega)] at l r
  rw [l, r, ec, ew, e]
theorem may_bs {M M' : zM} {a : Nat} (h : bs M M') : mayP M' a ↔ mayP M a := by
  have ec : cwk M' a = cwk M a := by unfold cwk; rw [h 162 _ (by decide) rfl]
  have e1 : ∀ j, M' (wtr a) j = M (wtr a) j := fun j => by
    rcases wtr_c a with ⟨-, e⟩ | ⟨-, e⟩ <;> rw [e] <;> exact h _ j (by decide) rfl
  show (_ ∧ _ ∧ _) ↔ (_ ∧ _ ∧ _)
  rw [ec, e1, h 129 _ (by decide) rfl, h 102 57 (by decide) rfl]
def offS (s : zS4) (a b l u : Int) : zS4 := if l < s.2.2.1 ∨ (l = s.2.2.1 ∧ u < s.2.2.2) then (a, b, l, u) else s
noncomputable def bst1 (M : zM) : Nat → zS4 → zS4
  | 0, s => s
  | a + 1, s => if mayP M a then offS (bst1 M a s) (a : Nat) (-1) (clF (pb M a) (M 102 58).toNat) (cbF (pb M a) (M 102 58).toNat) else bst1 M a s
noncomputable def bst2i (M : zM) (a : Nat) : Nat → zS4 → zS4
  | 0, s => s
  | k + 1, s => if mayP (pb M a) (2 * (a / 2) + 2 + k) then offS (bst2i M a k s) (a : Nat) ((2 * (a / 2) + 2 + k : Nat) : Int) (clF (pb (pb M a) (2 * (a / 2) + 2 + k)) (M 102 58).toNat) (cbF (pb (pb M a) (2 * (a / 2) + 2 + k)) (M 102 58).toNat) else bst2i M a k s
noncomputable def bst2 (M : zM) (N : Nat) : Nat → zS4 → zS4
  | 0, s => s
  | a + 1, s => if mayP M a then bst2i M a (N - (2 * (a / 2) + 2)) (bst2 M N a s) else bst2 M N a s
noncomputable def bst0 (M : zM) : zS4 := (-1, -1, clF M (M 102 58).toNat, cbF M (M 102 58).toNat)
noncomputable def bstA (M : zM) (m : Int) : zS4 := if 1 ≤ m then bst1 M (2 * M 102 96).toNat (bst0 M) else bst0 M
noncomputable def bst (M : zM) (m : Int) : zS4 := if 2 ≤ m then bst2 M (2 * M 102 96).toNat (2 * M 102 96).toNat (bstA M m) else bstA M m
theorem bst1_bs {M M' : zM} (hO : refOk M) (h : bs M M') (n : Nat) (s : zS4) : bst1 M' n s = bst1 M n s := by
  induction n with
  | zero => rfl
  | succ a ih =>
    unfold bst1
    have c := bs_costO (refOk_pb (a := a) hO) (bs_pb h)
    rw [ih, (c _).1, (c _).2, h 102 58 (by decide) rfl]
    by_cases q : mayP M a
    · rw [if_pos q, if_pos ((may_bs h).mpr q)]
    · rw [if_neg q, if_neg (fun q2 => q ((may_bs h).mp q2))]
theorem bst2i_bs {M M' : zM} {a : Nat} (hO : refOk M) (h : bs M M') (n : Nat) (s : zS4) : bst2i M' a n s = bst2i M a n s := by
  induction n with
  | zero => rfl
  | succ k ih =>
    unfold bst2i
    have c := bs_costO (refOk_pb (a := 2 * (a / 2) + 2 + k) (refOk_pb (a := a) hO)) (bs_pb (bs_pb h))
    rw [ih, (c _).1, (c _).2, h 102 58 (by decide) rfl]
    by_cases q : mayP (pb M a) (2 * (a / 2) + 2 + k)
    · rw [if_pos q, if_pos ((may_bs (bs_pb h)).mpr q)]
    · rw [if_neg q, if_neg (fun q2 => q ((may_bs (bs_pb h)).mp q2))]
theorem bst2_bs {M M' : zM} {N : Nat} (hO : refOk M) (h : bs M M') (n : Nat) (s : zS4) : bst2 M' N n s = bst2 M N n s := by
  induction n with
  | zero => rfl
  | succ a ih =>
    unfold bst2
    rw [ih, bst2i_bs hO h]
    by_cases q : mayP M a
    · rw [if_pos q, if_pos ((may_bs h).mpr q)]
    · rw [if_neg q, if_neg (fun q2 => q ((may_bs h).mp q2))]
theorem bst_bs {M M' : zM} (hO : refOk M) (h : bs M M') (m : Int) : bst M' m = bst M m := by
  unfold bst bstA bst0
  rw [bst2_bs hO h, bst1_bs hO h, (bs_costO hO h _).1, (bs_costO hO h _).2, h 102 58 (by decide) rfl, h 102 96 (by decide) rfl]
/-- a state of the search: its numbers are small -/
def sOk (s : zS4) : Prop := (-1 ≤ s.1 ∧ s.1 ≤ 100) ∧ (-1 ≤ s.2.1 ∧ s.2.1 ≤ 100) ∧ (0 ≤ s.2.2.1 ∧ s.2.2.1 ≤ 3000000) ∧ (0 ≤ s.2.2.2 ∧ s.2.2.2 ≤ 3000000)
def manyS (s : zS4) : Int := if s.1 = -1 then 0 else if s.2.1 = -1 then 1 else 2
theorem offS_ok {s : zS4} {a b l u : Int} (h : sOk s) (ha : -1 ≤ a ∧ a ≤ 100) (hb : -1 ≤ b ∧ b ≤ 100) (hl : 0 ≤ l ∧ l ≤ 3000000) (hu : 0 ≤ u ∧ u ≤ 3000000) : sOk (offS s a b l u) := by
  unfold offS
  split
  · exact ⟨ha, hb, hl, hu⟩
  · exact h
theorem cost_W {M : zM} (hO : refOk M) : (0 ≤ clF M (M 102 58).toNat ∧ clF M (M 102 58).toNat ≤ 3000000) ∧ (0 ≤ cbF M (M 102 58).toNat ∧ cbF M (M 102 58).toNat ≤ 3000000) := by
  have w := hO.2.2.2.2.1.1
  have := cost_O hO (M 102 58).toNat (by omega)
  omega
theorem cost_P {M : zM} {a : Nat} (hO : refOk M) : (0 ≤ clF (pb M a) (M 102 58).toNat ∧ clF (pb M a) (M 102 58).toNat ≤ 3000000) ∧ (0 ≤ cbF (pb M a) (M 102 58).toNat ∧ cbF (pb M a) (M 102 58).toNat ≤ 3000000) := by
  have := cost_W (refOk_pb (a := a) hO)
  rw [show pb M a 102 58 = M 102 58 from pb_n (by decide) (by decide) (by decide) (Or.inr (by decide)) (Or.inl (by decide))] at this
  exact this
theorem cost_P2 {M : zM} {a b : Nat} (hO : refOk M) : (0 ≤ clF (pb (pb M a) b) (M 102 58).toNat ∧ clF (pb (pb M a) b) (M 102 58).toNat ≤ 3000000) ∧ (0 ≤ cbF (pb (pb M a) b) (M 102 58).toNat ∧ cbF (pb (pb M a) b) (M 102 58).toNat ≤ 3000000) := by
  have := cost_P (a := b) (refOk_pb (a := a) hO)
  rw [show pb M a 102 58 = M 102 58 from pb_n (by decide) (by decide) (by decide) (Or.inr (by decide)) (Or.inl (by decide))] at this
  exact this
theorem bst0_ok {M : zM} (hO : refOk M) : sOk (bst0 M) := by
  obtain ⟨c1, c2⟩ := cost_W hO
  exact ⟨⟨by show (-1 : Int) ≤ -1; omega, by show (-1 : Int) ≤ 100; omega⟩, ⟨by show (-1 : Int) ≤ -1; omega, by show (-1 : Int) ≤ 100; omega⟩, c1, c2⟩
theorem bst1_ok {M : zM} (hO : refOk M) (n : Nat) (hn : n ≤ 20) {s : zS4} (hs : sOk s) : sOk (bst1 M n s) := by
  induction n with
  | zero => exact hs
  | succ a ih =>
    have ih := ih (by omega)
    obtain ⟨c1, c2⟩ := cost_P (a := a) hO
    unfold bst1
    split
    · exact offS_ok ih (by omega) (by omega) c1 c2
    · exact ih
theorem bst2i_ok {M : zM} {a : Nat} (hO : refOk M) (ha : a ≤ 20) (n : Nat) (hn : n ≤ 20) {s : zS4} (hs : sOk s) : sOk (bst2i M a n s) := by
  induction n with
  | zero => exact hs
  | succ k ih =>
    have ih := ih (by omega)
    obtain ⟨c1, c2⟩ := cost_P2 (a := a) (b := 2 * (a / 2) + 2 + k) hO
    unfold bst2i
    split
    · exact offS_ok ih (by omega) (by omega) c1 c2
    · exact ih
theorem bst2_ok {M : zM} {N : Nat} (hO : refOk M) (hN : N ≤ 20) (n : Nat) (hn : n ≤ 20) {s : zS4} (hs : sOk s) : sOk (bst2 M N n s) := by
  induction n with
  | zero => exact hs
  | succ a ih =>
    have ih := ih (by omega)
    unfold bst2
    split
    · exact bst2i_ok hO (by omega) _ (by omega) ih
    · exact ih
theorem bstA_ok {M : zM} (hO : refOk M) (hc : 0 ≤ M 102 96 ∧ M 102 96 ≤ 6) (m : Int) : sOk (bstA M m) := by
  unfold bstA
  split
  · exact bst1_ok hO _ (by omega) (bst0_ok hO)
  · exact bst0_ok hO
theorem bst_ok {M : zM} (hO : refOk M) (hc : 0 ≤ M 102 96 ∧ M 102 96 ≤ 6) (m : Int) : sOk (bst M m) := by
  unfold bst
  split
  · exact bst2_ok hO (by omega) _ (by omega) (bstA_ok hO hc m)
  · exact bstA_ok hO hc m
