/-! the reader of rules: the book as it grows -/
/-- the class's cells of V, the reference's new knots and new lines of M -/
def shM (V M : zM) : zM := fun x j => if x < 102 then V x j else if x = 114 ∨ x = 115 ∨ x = 119 then M x (64 + j) - 64 else if x = 120 ∨ x = 121 ∨ x = 122 then M x (12 + j) else M x (64 + j)
theorem sh_c {V M : zM} {x : Nat} (h : x < 102) : shM V M x = V x := by
  funext j
  unfold shM
  rw [if_pos h]
theorem sh_3 {V M : zM} {x : Nat} (h : x = 114 ∨ x = 115 ∨ x = 119) (j : Nat) : shM V M x j = M x (64 + j) - 64 := by
  unfold shM
  rw [if_neg (by omega), if_pos h]
theorem sh_l {V M : zM} {x : Nat} (h : x = 120 ∨ x = 121 ∨ x = 122) (j : Nat) : shM V M x j = M x (12 + j) := by
  unfold shM
  rw [if_neg (by omega), if_neg (by omega), if_pos h]
theorem sh_k {V M : zM} {x : Nat} (h : x = 113 ∨ x = 116 ∨ x = 117 ∨ x = 118) (j : Nat) : shM V M x j = M x (64 + j) := by
  unfold shM
  rw [if_neg (by omega), if_neg (by omega), if_neg (by omega)]
def kEq (W W' : zM) (a : Nat) : Prop := W' 113 a = W 113 a ∧ W' 114 a = W 114 a ∧ W' 115 a = W 115 a ∧ W' 116 a = W 116 a ∧ W' 117 a = W 117 a ∧ W' 118 a = W 118 a
def rEq (W W' : zM) (f j : Nat) : Prop := W' (f + 1) j = W (f + 1) j ∧ W' (f + 2) j = W (f + 2) j ∧ W' (f + 3) j = W (f + 3) j
/-- two pictures agree up to o orders -/
def agr (W W' : zM) (f o : Nat) : Prop := ∀ j : Nat, j < o → (W' 119 j = W 119 j ∧ rEq W W' f j) ∧ ∀ a : Nat, W 119 j = (a : Int) → kEq W W' a
theorem stp1_g {W W' : zM} {a : Nat} {s s' : List Nat} (h : kEq W W' a) (q : stp1 W a s s') : stp1 W' a s s' := by
  obtain ⟨e1, e2, e3, e4, e5, e6⟩ := h
  unfold stp1 at q ⊢
  rw [e1, e2, e3, e4, e5, e6]
  exact q
theorem opRel_g {W W' : zM} {f j a : Nat} (h : kEq W W' a) (r : rEq W W' f j) (q : opRel W f j a) : opRel W' f j a := by
  obtain ⟨e1, e2, e3, e4, e5, e6⟩ := h
  obtain ⟨r1, r2, r3⟩ := r
  unfold opRel at q ⊢
  rw [e1, e4, e5, e6, r1, r2, r3]
  exact q
/-- c orders from o0 on leave the stack s -/
def chn (W : zM) (f o0 : Nat) : Nat → List Nat → Prop
  | 0, s => s = []
  | c + 1, s' => ∃ (a : Nat) (s : List Nat), W 119 (o0 + c) = (a : Int) ∧ a < 64 ∧ stp1 W a s s' ∧ opRel W f (o0 + c) a ∧ s.length ≤ c ∧ chn W f o0 c s
theorem chn_g {W W' : zM} {f o : Nat} (h : agr W W' f o) {o0 : Nat} (c : Nat) (hc : o0 + c ≤ o) (s : List Nat) (q : chn W f o0 c s) : chn W' f o0 c s := by
  induction c generalizing s with
  | zero => exact q
  | succ c ih =>
    obtain ⟨a, s1, q1, q2, q3, q4, q5, q6⟩ := q
    obtain ⟨⟨h1, h2⟩, h3⟩ := h (o0 + c) (by omega)
    have k := h3 a q1
    exact ⟨a, s1, by rw [h1]; exact q1, q2, stp1_g k q3, opRel_g k h2 q4, q5, ih (by omega) s1 q6⟩
theorem stp1_l {W : zM} {a : Nat} {s s' : List Nat} (q : stp1 W a s s') : s'.length ≤ s.length + 1 ∧ ∀ x, x ∈ s' → x = a ∨ x ∈ s := by
  unfold stp1 at q
  rcases q with ⟨-, -, -, rfl⟩ | ⟨-, -, -, -, -, rfl⟩ | ⟨-, b, r, -, -, rfl, -, rfl⟩ | ⟨-, b, c, r, -, -, -, -, rfl, -, rfl⟩
  · exact ⟨by simp only [List.length_cons]; omega, fun x hx => List.mem_cons.mp hx⟩
  · exact ⟨by simp only [List.length_cons]; omega, fun x hx => List.mem_cons.mp hx⟩
  · exact ⟨by simp only [List.length_cons]; omega, fun x hx => (List.mem_cons.mp hx).imp id (fun q => List.mem_cons_of_mem _ q)⟩
  · exact ⟨by simp only [List.length_cons]; omega, fun x hx => (List.mem_cons.mp hx).imp id (fun q => List.mem_cons_of_mem _ (List.mem_cons_of_mem _ q))⟩
theorem chn_l {W : zM} {f o0 : Nat} (c : Nat) (s : List Nat) (q : chn W f o0 c s) : s.length ≤ c ∧ ∀ x, x ∈ s → ∃ j : Nat, j < c ∧ W 119 (o0 + j) = (x : Int) := by
  induction c generalizing s with
  | zero =>
    have q : s = [] := q
    subst q
    exact ⟨Nat.le_refl _, fun x hx => absurd hx (by simp)⟩
  | succ c ih =>
    obtain ⟨a, s1, q1, q2, q3, q4, q5, q6⟩ := q
    obtain ⟨l1, l2⟩ := stp1_l q3
    obtain ⟨i1, i2⟩ := ih s1 q6
    refine ⟨by omega, fun x hx => ?_⟩
    rcases l2 x hx with rfl | q
    · exact ⟨c, by omega, q1⟩
    · obtain ⟨j, j1, j2⟩ := i2 x q
      exact ⟨j, by omega, j2⟩
theorem chn_st {W : zM} {f o0 : Nat} (c : Nat) (s : List Nat) (q : chn W f o0 c s) : ∃ st : Nat → List Nat, st 0 = [] ∧ st c = s ∧ ∀ i, i < c → ∃ a : Nat, W 119 (o0 + i) = (a : Int) ∧ a < 64 ∧ (st i).length ≤ i ∧ stp1 W a (st i) (st (i + 1)) ∧ opRel W f (o0 + i) a := by
  induction c generalizing s with
  | zero =>
    have q : s = [] := q
    exact ⟨fun _ => [], rfl, q.symm, fun i hi => by omega⟩
  | succ c ih =>
    obtain ⟨a, s1, q1, q2, q3, q4, q5, q6⟩ := q
    obtain ⟨st, t0, t1, t2⟩ := ih s1 q6
    refine ⟨fun i => if i = c + 1 then s else st i, ?_, ?_, fun i hi => ?_⟩
    · show (if 0 = c + 1 then s else st 0) = []
      rw [if_neg (by omega)]
      exact t0
    · show (if c + 1 = c + 1 then s else st (c + 1)) = s
      rw [if_pos rfl]
    · show ∃ a : Nat, _ ∧ _ ∧ (if i = c + 1 then s else st i).length ≤ i ∧ stp1 W a (if i = c + 1 then s else st i) (if i + 1 = c + 1 then s else st (i + 1)) ∧ _
      rw [if_neg (show ¬ i = c + 1 by omega)]
      by_cases q : i = c
      · rw [if_pos (show i + 1 = c + 1 by omega), q, t1]
        exact ⟨a, q1, q2, q5, q3, q4⟩
      · rw [if_neg (show ¬ i + 1 = c + 1 by omega)]
        exact t2 i (by omega)
theorem chn_ln {W : zM} {f o0 c l : Nat} {s : List Nat} (q : chn W f o0 c s) (hf : W 121 l = (o0 : Int)) (hm : W 122 l = (c : Int)) (hb : o0 + c ≤ 64) : (∃ st, lnOk W l st) ∧ ∀ i : Nat, (i : Int) < W 122 l → opRel W f (W 121 l + i).toNat (W 119 (W 121 l + i).toNat).toNat := by
  obtain ⟨st, t0, t1, t2⟩ := chn_st c s q
  have e : ∀ i : Nat, ((o0 : Int) + (i : Int)).toNat = o0 + i := fun i => by omega
  refine ⟨⟨st, ?_⟩, fun i hi => ?_⟩
  · unfold lnOk
    rw [hf, hm]
    refine ⟨by omega, by omega, by omega, t0, fun i hi => ?_⟩
    obtain ⟨a, a1, a2, a3, a4, a5⟩ := t2 i (by omega)
    rw [e]
    exact ⟨a, a1, a2, by omega, a4⟩
  · rw [hm] at hi
    obtain ⟨a, a1, a2, a3, a4, a5⟩ := t2 i (by omega)
    rw [hf, e, a1, Int.toNat_natCast]
    exact a5
