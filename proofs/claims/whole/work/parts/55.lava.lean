/-! lava: one step as a function, and its bounds -/
def bes (W A c k : Nat) : Int := if k = 0 then (c : Int) - W else if k = 1 then (if 0 < c % W then (c : Int) - 1 else -1) else if k = 2 then (if c % W < W - 1 then (c : Int) + 1 else -1) else (if c + W < A then (c : Int) + W else -1)
def lowK (top : Nat → Int) (W A c : Nat) : Nat → Int
  | 0 => -1
  | k + 1 => if 0 ≤ bes W A c k ∧ (lowK top W A c k < 0 ∨ top (bes W A c k).toNat < top (lowK top W A c k).toNat) then bes W A c k else lowK top W A c k
def low (top : Nat → Int) (W A c : Nat) : Nat := (lowK top W A c 4).toNat
theorem bes_lt {W T c : Nat} (hW : 2 ≤ W) (hT : 2 ≤ T) (hc : c < W * T) (k : Nat) : bes W (W * T) c k < ((W * T : Nat) : Int) := by
  unfold bes
  split
  · omega
  · split
    · split <;> omega
    · split
      · split
        · rename_i h
          have h1 : c + 1 ≠ W * T := by
            intro he
            have h2 : (c + 1) % W = 0 := by rw [he]; exact Nat.mul_mod_right W T
            have h3 : (c + 1) % W = (c % W + 1) % W := by rw [Nat.add_mod]; simp [Nat.mod_eq_of_lt (by omega : 1 < W)]
            rw [h3, Nat.mod_eq_of_lt (by omega)] at h2
            omega
          omega
        · omega
      · split <;> omega
theorem lowK_r {top : Nat → Int} {W T c : Nat} (hW : 2 ≤ W) (hT : 2 ≤ T) (hc : c < W * T) (k : Nat) : -1 ≤ lowK top W (W * T) c k ∧ lowK top W (W * T) c k < ((W * T : Nat) : Int) ∧ ((∃ j, j < k ∧ 0 ≤ bes W (W * T) c j) → 0 ≤ lowK top W (W * T) c k) := by
  induction k with
  | zero => exact ⟨by unfold lowK; omega, by unfold lowK; omega, fun ⟨j, h, _⟩ => by omega⟩
  | succ k ih =>
    have hb := bes_lt hW hT hc k
    unfold lowK
    split
    · rename_i h
      exact ⟨by omega, hb, fun _ => h.1⟩
    · rename_i h
      refine ⟨ih.1, ih.2.1, fun ⟨j, hj, hj2⟩ => ?_⟩
      by_cases hjk : j = k
      · subst hjk
        apply Int.not_lt.mp
        intro hlt
        exact h ⟨hj2, Or.inl hlt⟩
      · exact ih.2.2 ⟨j, by omega, hj2⟩
theorem low_r {top : Nat → Int} {W T c : Nat} (hW : 2 ≤ W) (hT : 2 ≤ T) (hc : c < W * T) : lowK top W (W * T) c 4 = (low top W (W * T) c : Int) ∧ low top W (W * T) c < W * T := by
  have h := lowK_r (top := top) hW hT hc 4
  have h2 : 2 * W ≤ W * T := by rw [Nat.mul_comm 2 W]; exact Nat.mul_le_mul_left W hT
  have h0 : 0 ≤ lowK top W (W * T) c 4 := by
    apply h.2.2
    by_cases hc2 : W ≤ c
    · exact ⟨0, by omega, by unfold bes; simp; omega⟩
    · exact ⟨3, by omega, by unfold bes; rw [if_neg (by omega), if_neg (by omega), if_neg (by omega), if_pos (by omega)]; omega⟩
  unfold low
  omega
/-- what a cell gives -/
def gvF (X top : Nat → Int) (W A c : Nat) : Int := if X c ≤ 0 ∨ top c - top (low top W A c) < 2 then 0 else (if Int.tdiv (top c - top (low top W A c)) 2 < X c then Int.tdiv (top c - top (low top W A c)) 2 else X c)
theorem gvF_r (X top : Nat → Int) (W A c : Nat) (hX : 0 ≤ X c) : 0 ≤ gvF X top W A c ∧ gvF X top W A c ≤ X c ∧ (0 < gvF X top W A c ↔ ¬ (X c ≤ 0 ∨ top c - top (low top W A c) < 2)) := by
  unfold gvF
  split
  · rename_i h
    exact ⟨by omega, hX, ⟨fun q => by omega, fun q => absurd h q⟩⟩
  · rename_i h
    have h2 : 1 ≤ Int.tdiv (top c - top (low top W A c)) 2 := by
      rw [Int.tdiv_eq_ediv_of_nonneg (by omega)]
      omega
    split <;> exact ⟨by omega, by omega, ⟨fun _ => h, fun _ => by omega⟩⟩
def gnF (X top : Nat → Int) (W A : Nat) : Nat → Nat → Int
  | 0, _ => 0
  | n + 1, c => gnF X top W A n c - (if n = c then gvF X top W A n else 0) + (if low top W A n = c then gvF X top W A n else 0)
def gtF (cm : Bool) (v : Nat) (X top : Nat → Int) (W A : Nat) : Nat → Nat → Int
  | 0, c => if cm = true ∧ c = v then 1 else 0
  | n + 1, c => gtF cm v X top W A n c + (if 0 < gvF X top W A n ∧ low top W A n = c then 1 else 0)
def mvF (cm : Bool) (v : Nat) (X top : Nat → Int) (W A : Nat) : Nat → Nat → Int
  | 0, c => if cm = true ∧ c = v then 1 else 0
  | n + 1, c => if 0 < gvF X top W A n ∧ (n = c ∨ low top W A n = c) then 1 else mvF cm v X top W A n c
theorem gtF_r (cm : Bool) (v : Nat) (X top : Nat → Int) (W A n c : Nat) : 0 ≤ gtF cm v X top W A n c ∧ gtF cm v X top W A n c ≤ n + 1 := by
  induction n with
  | zero => unfold gtF; split <;> omega
  | succ n ih => unfold gtF; split <;> omega
theorem mvF_gt (cm : Bool) (v : Nat) (X top : Nat → Int) (W A n c : Nat) : (mvF cm v X top W A n c = 0 ∨ mvF cm v X top W A n c = 1) ∧ (mvF cm v X top W A n c = 0 ↔ (gtF cm v X top W A n c ≤ 0 ∧ (c < n → gvF X top W A c ≤ 0))) := by
  induction n with
  | zero =>
    unfold mvF gtF
    split <;> simp
  | succ n ih =>
    obtain ⟨ih1, ih2⟩ := ih
    have hg := gtF_r cm v X top W A n c
    unfold mvF gtF
    by_cases h : 0 < gvF X top W A n ∧ (n = c ∨ low top W A n = c)
    · rw [if_pos h]
      refine ⟨Or.inr rfl, ⟨fun q => absurd q (by decide), fun q => ?_⟩⟩
      exfalso
      obtain ⟨h1, h2 | h2⟩ := h
      · subst h2
        have := q.2 (by omega)
        omega
      · rw [if_pos ⟨h1, h2⟩] at q
        omega
    · rw [if_neg h]
      have h3 : ¬ (0 < gvF X top W A n ∧ low top W A n = c) := fun q => h ⟨q.1, Or.inr q.2⟩
      rw [if_neg h3]
      refine ⟨ih1, ih2.trans ⟨fun q => ⟨by omega, fun hc => ?_⟩, fun q => ⟨by omega, fun hc => q.2 (by omega)⟩⟩⟩
      by_cases hcn : n = c
      · subst hcn
        apply Int.not_lt.mp
        intro hlt
        exact h ⟨hlt, Or.inl rfl⟩
      · exact q.2 (by omega)
theorem gnF_ge (X top : Nat → Int) (W A : Nat) (hX : ∀ c, 0 ≤ X c) (n c : Nat) : -(if c < n then gvF X top W A c else 0) ≤ gnF X top W A n c := by
  induction n with
  | zero => unfold gnF; simp
  | succ n ih =>
    have h1 := (gvF_r X top W A n (hX n)).1
    unfold gnF
    by_cases hc : n = c
    · subst hc
      rw [if_neg (by omega)] at ih
      rw [if_pos (by omega), if_pos rfl]
      split <;> omega
    · rw [if_neg hc]
      by_cases hc2 : c < n
      · rw [if_pos hc2] at ih
        rw [if_pos (by omega)]
        split <;> omega
      · rw [if_neg hc2] at ih
        rw [if_neg (by omega)]
        split <;> omega
theorem gnF_sm (X top : Nat → Int) (W A : Nat) (hl : ∀ c, c < A → low top W A c < A) (n : Nat) (hn : n ≤ A) : sm A (gnF X top W A n) = 0 := by
  induction n with
  | zero => exact sm_zero A
  | succ n ih =>
    have e : sm A (gnF X top W A (n + 1)) = sm A (fun c => (gnF X top W A n c - (if n = c then gvF X top W A n else 0)) + (if low top W A n = c then gvF X top W A n else 0)) := sm_congr (fun c _ => rfl)
    rw [e, sm_add, sm_sub, ih (by omega), sm_pick, sm_pick, if_pos (by omega), if_pos (hl n (by omega))]
    omega
theorem sm_mem {n : Nat} {f : Nat → Int} (h : ∀ i, i < n → 0 ≤ f i) {k : Nat} (hk : k < n) : f k ≤ sm n f := by
  have e : sm n (fun v => if k = v then f k else 0) = f k := by rw [sm_pick, if_pos hk]
  rw [← e]
  refine sm_le (fun i hi => ?_)
  split
  · rename_i q; subst q; exact Int.le_refl _
  · exact h i hi
/-- lava, ground, since -/
abbrev zS3 : Type := (Nat → Int) × (Nat → Int) × (Nat → Int)
def xF (cm : Bool) (v : Nat) (r : Int) (L : Nat → Int) (c : Nat) : Int := L c + (if cm = true ∧ c = v then r else 0)
def oneF (cm : Bool) (v : Nat) (r : Int) (W A : Nat) (z : zS3) (c : Nat) : Int := xF cm v r z.1 c + gnF (xF cm v r z.1) (fun c => xF cm v r z.1 c + z.2.1 c) W A A c
def coolF (cm : Bool) (v : Nat) (r : Int) (W A : Nat) (z : zS3) (c : Nat) : Bool := decide (0 < oneF cm v r W A z c) && decide (mvF cm v (xF cm v r z.1) (fun c => xF cm v r z.1 c + z.2.1 c) W A A c = 0)
def stpF (cm : Bool) (v : Nat) (r : Int) (s : Int) (W A : Nat) (z : zS3) : zS3 :=
  (fun c => if coolF cm v r W A z c = true then oneF cm v r W A z c - 1 else oneF cm v r W A z c,
   fun c => if coolF cm v r W A z c = true then z.2.1 c + 1 else z.2.1 c,
   fun c => if (0 < xF cm v r z.1 c ∨ 0 < oneF cm v r W A z c) ∧ z.2.2 c = 13 then s else z.2.2 c)
theorem stpF_1 (cm : Bool) (v : Nat) (r s : Int) (W A : Nat) (z : zS3) (c : Nat) : (stpF cm v r s W A z).1 c = if coolF cm v r W A z c = true then oneF cm v r W A z c - 1 else oneF cm v r W A z c := rfl
theorem stpF_2 (cm : Bool) (v : Nat) (r s : Int) (W A : Nat) (z : zS3) (c : Nat) : (stpF cm v r s W A z).2.1 c = if coolF cm v r W A z c = true then z.2.1 c + 1 else z.2.1 c := rfl
theorem stpF_3 (cm : Bool) (v : Nat) (r s : Int) (W A : Nat) (z : zS3) (c : Nat) : (stpF cm v r s W A z).2.2 c = if (0 < xF cm v r z.1 c ∨ 0 < oneF cm v r W A z c) ∧ z.2.2 c = 13 then s else z.2.2 c := rfl
def lvF (g0 : Nat → Int) (v : Nat) (r l : Int) (W A : Nat) : Nat → zS3
  | 0 => (fun _ => 0, g0, fun _ => 13)
  | s + 1 => stpF (decide (((s + 1 : Nat) : Int) ≤ l)) v r ((s + 1 : Nat) : Int) W A (lvF g0 v r l W A s)
/-- what holds of it behind each step -/
def lvOk (v A s : Nat) (z : zS3) : Prop := (∀ c, 0 ≤ z.1 c) ∧ sm A z.1 ≤ 99 * s ∧ (∀ c, -8 ≤ z.2.1 c ∧ z.2.1 c ≤ 1007 + s) ∧ (∀ c, z.2.2 c = 13 ∨ (1 ≤ z.2.2 c ∧ z.2.2 c ≤ s)) ∧ (∀ c, 0 < z.1 c → z.2.2 c ≠ 13) ∧ (1 ≤ s → z.2.2 v = 1)
theorem one_r {cm : Bool} {v : Nat} {r : Int} {W T : Nat} {z : zS3} {s : Nat} (hW : 2 ≤ W) (hT : 2 ≤ T) (hr : 1 ≤ r ∧ r ≤ 99) (hv : v < W * T) (h : lvOk v (W * T) s z) :
    (∀ c, 0 ≤ xF cm v r z.1 c) ∧ sm (W * T) (xF cm v r z.1) ≤ 99 * ((s + 1 : Nat) : Int) ∧ (∀ c, 0 ≤ oneF cm v r W (W * T) z c) ∧ sm (W * T) (oneF cm v r W (W * T) z) ≤ 99 * ((s + 1 : Nat) : Int) := by
  obtain ⟨h1, h2, -⟩ := h
  have x0 : ∀ c, 0 ≤ xF cm v r z.1 c := fun c => by
    have := h1 c
    unfold xF
    split <;> omega
  have xs : sm (W * T) (xF cm v r z.1) ≤ 99 * ((s + 1 : Nat) : Int) := by
    have e : sm (W * T) (xF cm v r z.1) = sm (W * T) z.1 + sm (W * T) (fun c => if cm = true ∧ c = v then r else 0) := by
      rw [← sm_add]
      exact sm_congr (fun c _ => rfl)
    have e2 : sm (W * T) (fun c => if cm = true ∧ c = v then r else 0) ≤ r := by
      have e3 : sm (W * T) (fun c => if v = c then r else 0) = r := by rw [sm_pick, if_pos hv]
      rw [← e3]
      refine sm_le (fun i _ => ?_)
      by_cases hi : v = i
      · rw [if_pos hi]; split <;> omega
      · rw [if_neg hi, if_neg (fun q => hi q.2.symm)]; exact Int.le_refl _
    rw [e]
    have : ((s + 1 : Nat) : Int) = (s : Int) + 1 := by omega
    omega
  have o0 : ∀ c, 0 ≤ oneF cm v r W (W * T) z c := fun c => by
    have g1 := gnF_ge (xF cm v r z.1) (fun c => xF cm v r z.1 c + z.2.1 c) W (W * T) x0 (W * T) c
    have g2 := gvF_r (xF cm v r z.1) (fun c => xF cm v r z.1 c + z.2.1 c) W (W * T) c (x0 c)
    have := x0 c
    unfold oneF
    split at g1 <;> omega
  refine ⟨x0, xs, o0, ?_⟩
  have e : sm (W * T) (oneF cm v r W (W * T) z) = sm (W * T) (xF cm v r z.1) + sm (W * T) (gnF (xF cm v r z.1) (fun c => xF cm v r z.1 c + z.2.1 c) W (W * T) (W * T)) := by
    rw [← sm_add]
    exact sm_congr (fun c _ => rfl)
  rw [e, gnF_sm _ _ _ _ (fun c hc => (low_r hW hT hc).2) _ (Nat.le_refl _)]
  omega
theorem stp_ok {cm : Bool} {v : Nat} {r : Int} {W T : Nat} {z : zS3} {s : Nat} (hW : 2 ≤ W) (hT : 2 ≤ T) (hr : 1 ≤ r ∧ r ≤ 99) (hv : v < W * T) (h : lvOk v (W * T) s z) (hs12 : s < 12) (hc : s = 0 → cm = true) : lvOk v (W * T) (s + 1) (stpF cm v r ((s + 1 : Nat) : Int) W (W * T) z) := by
  obtain ⟨x0, xs, o0, os⟩ := one_r (cm := cm) hW hT hr hv h
  obtain ⟨h1, h2, h3, h4, h5, h6⟩ := h
  refine ⟨fun c => ?_, ?_, fun c => ?_, fun c => ?_, fun c => ?_, fun _ => ?_⟩
  · have := o0 c
    show 0 ≤ (if coolF cm v r W (W * T) z c = true then _ else _)
    split
    · rename_i q
      simp [coolF] at q
      omega
    · exact this
  · refine Int.le_trans (sm_le (fun c _ => ?_)) os
    show (if coolF cm v r W (W * T) z c = true then _ else _) ≤ _
    split <;> omega
  · have := h3 c
    show -8 ≤ (if coolF cm v r W (W * T) z c = true then _ else _) ∧ (if coolF cm v r W (W * T) z c = true then _ else _) ≤ _
    split <;> omega
  · have := h4 c
    rw [stpF_3]
    split <;> omega
  · rw [stpF_1, stpF_3]
    intro q
    have q1 : 0 < oneF cm v r W (W * T) z c := by
      split at q <;> omega
    have := h4 c
    split
    · omega
    · rename_i q2
      intro q3
      exact q2 ⟨Or.inr q1, q3⟩
  · rw [stpF_3]
    by_cases hs : s = 0
    · subst hs
      have hcm := hc rfl
      have hx : 0 < xF cm v r z.1 v := by
        have := h1 v
        unfold xF
        rw [if_pos ⟨hcm, rfl⟩]
        omega
      have h13 : z.2.2 v = 13 := by
        have := h4 v
        omega
      rw [if_pos ⟨Or.inl hx, h13⟩]
      rfl
    · have := h6 (by omega)
      rw [if_neg (by omega)]
      exact this
theorem lv_ok {g0 : Nat → Int} {v : Nat} {r l : Int} {W T : Nat} (hW : 2 ≤ W) (hT : 2 ≤ T) (hr : 1 ≤ r ∧ r ≤ 99) (hl : 1 ≤ l) (hv : v < W * T) (hg : ∀ c, -8 ≤ g0 c ∧ g0 c ≤ 1007) (s : Nat) (hs : s ≤ 12) : lvOk v (W * T) s (lvF g0 v r l W (W * T) s) := by
  induction s with
  | zero => exact ⟨fun c => Int.le_refl _, by rw [show (lvF g0 v r l W (W * T) 0).1 = fun _ => 0 from rfl, sm_zero]; decide, fun c => by have := hg c; show -8 ≤ g0 c ∧ g0 c ≤ 1007 + ((0 : Nat) : Int); omega, fun c => Or.inl rfl, fun c q => absurd q (by show ¬ (0 : Int) < 0; decide), fun q => absurd q (by decide)⟩
  | succ s ih =>
    refine stp_ok hW hT hr hv (ih (by omega)) (by omega) (fun hs => ?_)
    subst hs
    simp
    omega
