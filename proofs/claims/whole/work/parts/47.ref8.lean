/-! the reference: values, and the small ones of lava and places -/
def NV : Int := -9223372036854775808
def absI (a : Int) : Int := if a < 0 then -a else a
/-- a value of two, NV where there is none -/
def mkv (k a b : Int) : Int :=
  if k = 1 then (if a < b then 1 else 0) else if k = 2 then (if a ≤ b then 1 else 0) else if k = 3 then (if a = b then 1 else 0) else if k = 4 then (if a = b then 0 else 1) else if k = 5 then (if b ≤ a then 1 else 0) else if k = 6 then (if b < a then 1 else 0)
  else if k = 7 then (if 1000000000000 < absI (a + b) then NV else a + b) else if k = 8 then (if 1000000000000 < absI (a - b) then NV else a - b)
  else if k = 9 then (if a ≠ 0 ∧ Int.tdiv 1000000000000 (absI a) < absI b then NV else a * b) else if k = 10 then (if b = 0 then NV else Int.tdiv a b)
  else if k = 13 then (if a ≠ 0 ∧ b ≠ 0 then 1 else 0) else (if a ≠ 0 ∨ b ≠ 0 then 1 else 0)
theorem r_truth {E : zE} {M : zM} {Q : Int → zM → Prop} {t : Int} (ht : t = 0 ∨ t = 1) (h : Q t M) : zP E mX12_truth [.inl t] M Q := by
  refine vcX12_truth _ ?_
  grind [zR]
theorem r_big {E : zE} {M : zM} {Q : Int → zM → Prop} {a : Int} (ha : zL a) (h : Q (absI a) M) : zP E mX12_big [.inr (.inl a)] M Q := by
  refine vcX12_big _ ?_
  unfold absI at h
  grind [zL]
theorem r_bounded {E : zE} {M : zM} {Q : Int → zM → Prop} {a : Int} (ha : zL a) (hb : NV < a) (h : Q (if 1000000000000 < absI a then NV else a) M) : zP E mX12_bounded [.inr (.inl a)] M Q := by
  refine vcX12_bounded _ ?_
  refine r_big ha ?_
  unfold NV at *
  unfold absI at *
  grind [zL]
theorem tdiv_lt {x y : Int} (hx : 0 ≤ x) (hy : 1 ≤ y) : 0 ≤ Int.tdiv x y ∧ Int.tdiv x y ≤ x := by
  rw [Int.tdiv_eq_ediv_of_nonneg hx]
  exact ⟨Int.ediv_nonneg hx (by omega), Int.ediv_le_self y hx⟩
theorem r_made {E : zE} {M : zM} {Q : Int → zM → Prop} {k a b : Int} (hk : (1 ≤ k ∧ k ≤ 10) ∨ k = 13 ∨ k = 14) (ha : -1000000000000 ≤ a ∧ a ≤ 1000000000000) (hb : -1000000000000 ≤ b ∧ b ≤ 1000000000000) (h : Q (mkv k a b) M) : zP E mX12_made [.inl k, .inr (.inl a), .inr (.inl b)] M Q := by
  have la : zL a := ⟨by omega, by omega⟩
  have lb : zL b := ⟨by omega, by omega⟩
  refine vcX12_made _ _ _ ⟨⟨by omega, by omega⟩, fun hc => ?_, fun hc => ?_, fun hc => ?_, fun hc => ?_, fun hc => ?_, fun hc => ?_, fun hc => ?_, fun hc => ?_, fun hc => ?_, fun hc => ?_, fun hc => ?_, fun hc => ?_, fun hc => ?_, fun hc => ?_⟩
  · have : k = 14 := by omega
    subst this
    have h : Q (if a ≠ 0 ∨ b ≠ 0 then 1 else 0) M := h
    exact ⟨la, fun _ => r_truth (Or.inr rfl) (by grind), fun _ => ⟨lb, fun _ => r_truth (Or.inl rfl) (by grind), fun _ => r_truth (Or.inr rfl) (by grind)⟩⟩
  · subst hc
    have h : Q (if a < b then 1 else 0) M := h
    exact ⟨⟨la, lb⟩, fun _ => r_truth (Or.inl rfl) (by grind), fun _ => r_truth (Or.inr rfl) (by grind)⟩
  · subst hc
    have h : Q (if a ≤ b then 1 else 0) M := h
    exact ⟨⟨la, lb⟩, fun _ => r_truth (Or.inl rfl) (by grind), fun _ => r_truth (Or.inr rfl) (by grind)⟩
  · subst hc
    have h : Q (if a = b then 1 else 0) M := h
    exact ⟨⟨la, lb⟩, fun _ => r_truth (Or.inl rfl) (by grind), fun _ => r_truth (Or.inr rfl) (by grind)⟩
  · subst hc
    have h : Q (if a = b then 0 else 1) M := h
    exact ⟨⟨la, lb⟩, fun _ => r_truth (Or.inl rfl) (by grind), fun _ => r_truth (Or.inr rfl) (by grind)⟩
  · subst hc
    have h : Q (if b ≤ a then 1 else 0) M := h
    exact ⟨⟨la, lb⟩, fun _ => r_truth (Or.inl rfl) (by grind), fun _ => r_truth (Or.inr rfl) (by grind)⟩
  · subst hc
    have h : Q (if b < a then 1 else 0) M := h
    exact ⟨⟨la, lb⟩, fun _ => r_truth (Or.inl rfl) (by grind), fun _ => r_truth (Or.inr rfl) (by grind)⟩
  · subst hc
    have h : Q (if 1000000000000 < absI (a + b) then NV else a + b) M := h
    exact r_bounded ⟨by omega, by omega⟩ (by unfold NV; omega) h
  · subst hc
    have h : Q (if 1000000000000 < absI (a - b) then NV else a - b) M := h
    exact r_bounded ⟨by omega, by omega⟩ (by unfold NV; omega) h
  · subst hc
    have h : Q (if a ≠ 0 ∧ Int.tdiv 1000000000000 (absI a) < absI b then NV else a * b) M := h
    refine ⟨la, fun h0 => by grind, fun h0 => r_big lb (r_big la ?_)⟩
    have h1 : 1 ≤ absI a ∧ absI a ≤ 1000000000000 := by unfold absI; grind
    have h2 : 0 ≤ absI b ∧ absI b ≤ 1000000000000 := by unfold absI; grind
    have h3 := tdiv_lt (x := 1000000000000) (y := absI a) (by omega) h1.1
    refine ⟨⟨⟨by omega, by omega⟩, by omega⟩, ⟨⟨by omega, by omega⟩, ⟨by omega, by omega⟩⟩, fun h4 => ?_, fun h4 => ?_⟩
    · rw [if_neg (by omega)] at h
      exact h
    · rw [if_pos ⟨h0, h4⟩] at h
      exact h
  · subst hc
    have h : Q (if b = 0 then NV else Int.tdiv a b) M := h
    refine ⟨lb, fun h0 => ⟨⟨la, lb, h0⟩, ?_⟩, fun h0 => ?_⟩
    · rw [if_neg h0] at h; exact h
    · rw [if_pos h0] at h; exact h
  · omega
  · omega
  · subst hc
    have h : Q (if a ≠ 0 ∧ b ≠ 0 then 1 else 0) M := h
    exact ⟨la, fun _ => r_truth (Or.inl rfl) (by grind), fun _ => ⟨lb, fun _ => r_truth (Or.inl rfl) (by grind), fun _ => r_truth (Or.inr rfl) (by grind)⟩⟩
