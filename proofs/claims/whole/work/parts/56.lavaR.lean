/-! the reference's lava -/
theorem r_besideOf {E : zE} {M : zM} {Q : Int → zM → Prop} {W T c k : Nat} (hW : M 102 51 = (W : Int)) (hT : M 102 52 = (T : Int)) (h2 : 2 ≤ W ∧ W ≤ 8) (h3 : 2 ≤ T ∧ T ≤ 8) (hc : c < W * T) (hk : k < 4) (hA : W * T ≤ 64) (h : Q (bes W (W * T) c k) M) : zP E mX12_besideOf [.inr (.inr 102), .inl (c : Int), .inl (k : Int)] M Q := by
  refine vcX12_besideOf _ _ ?_
  rw [hW, hT]
  have e1 : Int.tmod (c : Int) (W : Int) = ((c % W : Nat) : Int) := rfl
  have e2 : (W : Int) * (T : Int) = ((W * T : Nat) : Int) := by simp
  have e3 := Nat.mod_lt c (show 0 < W by omega)
  rw [e1, e2]
  generalize hm : c % W = m at *
  generalize hA2 : W * T = A at *
  unfold bes at h
  rw [hm] at h
  have hk4 : k = 0 ∨ k = 1 ∨ k = 2 ∨ k = 3 := by omega
  refine ⟨⟨by unfold zR; omega, by unfold zR; omega, by omega⟩, by unfold zR; omega, fun c0 => ⟨by unfold zR; omega, fun c1 => ⟨by unfold zR; omega, fun c2 => ⟨⟨by unfold zR; omega, by unfold zR; omega⟩, fun q => ?_, fun q => ?_⟩, fun c2 => ⟨⟨by unfold zR; omega, by unfold zR; omega⟩, fun q => ?_, fun q => ?_⟩⟩, fun c1 => ⟨by unfold zR; omega, fun q => ?_, fun q => ?_⟩⟩, fun c0 => ?_⟩
  · rw [if_neg (by omega), if_neg (by omega), if_neg (by omega), if_neg (by omega)] at h; exact h
  · rw [if_neg (by omega), if_neg (by omega), if_neg (by omega), if_pos (by omega)] at h; exact h
  · rw [if_neg (by omega), if_neg (by omega), if_pos (by omega), if_neg (by omega)] at h; exact h
  · rw [if_neg (by omega), if_neg (by omega), if_pos (by omega), if_pos (by omega)] at h; exact h
  · rw [if_neg (by omega), if_pos (by omega), if_neg (by omega)] at h; exact h
  · rw [if_neg (by omega), if_pos (by omega), if_pos (by omega)] at h; exact h
  · rw [if_pos (by omega)] at h; exact h
theorem r_topOf {E : zE} {M : zM} {Q : Int → zM → Prop} {i : Int} (hi : 0 ≤ i ∧ i < 832) (h : Q (M 137 i.toNat + M 138 i.toNat) M) : zP E mX12_topOf [.inr (.inr 102), .inl i] M Q := vcX12_topOf _ ⟨hi, hi, h⟩
theorem r_lowestBy {E : zE} {M : zM} {Q : Int → zM → Prop} {W T c : Nat} {b : Int} {t : Nat} {top : Nat → Int} (hW : M 102 51 = (W : Int)) (hT : M 102 52 = (T : Int)) (h2 : 2 ≤ W ∧ W ≤ 8) (h3 : 2 ≤ T ∧ T ≤ 8) (hc : c < W * T) (hA : W * T ≤ 64) (hb : b = 64 * (t : Int)) (ht : t ≤ 12)
    (htop : ∀ j, j < W * T → M 137 (64 * t + j) + M 138 (64 * t + j) = top j ∧ zR (top j)) (h : Q (low top W (W * T) c) M) : zP E mX12_lowestBy [.inr (.inr 102), .inl (c : Int), .inl b] M Q := by
  obtain ⟨low1, low2⟩ := low_r (top := top) h2.1 h3.1 hc
  rw [← low1] at h
  refine vcX12_lowestBy _ _ (fun n l1 l2 l3 l4 M' => M' = M ∧ l1 = (c : Int) ∧ l2 = b ∧ ∃ k : Nat, l4 = (k : Int) ∧ k ≤ 4 ∧ n = 10 - k ∧ l3 = lowK top W (W * T) c k) ⟨10, rfl, rfl, rfl, 0, rfl, by omega, rfl, rfl⟩ ?_
  rintro n l1 l2 l3 l4 M' ⟨rfl, rfl, rfl, k, rfl, hk, rfl, rfl⟩
  obtain ⟨k1, k2, -⟩ := lowK_r (top := top) h2.1 h3.1 hc k
  have b1 := bes_lt h2.1 h3.1 hc k
  refine ⟨by unfold zR; omega, fun q => ?_, fun q => ?_⟩
  · have hk4 : k = 4 := by omega
    subst hk4
    exact h
  · have nx : ∀ v, v = lowK top W (W * T) c (k + 1) → ∃ n', n' < 10 - k ∧ M' = M' ∧ (c : Int) = (c : Int) ∧ l2 = l2 ∧ ∃ k2 : Nat, (k : Int) + 1 = (k2 : Int) ∧ k2 ≤ 4 ∧ n' = 10 - k2 ∧ v = lowK top W (W * T) c k2 := fun v hv => ⟨10 - (k + 1), by omega, rfl, rfl, rfl, k + 1, by omega, by omega, rfl, hv⟩
    have un : lowK top W (W * T) c (k + 1) = if 0 ≤ bes W (W * T) c k ∧ (lowK top W (W * T) c k < 0 ∨ top (bes W (W * T) c k).toNat < top (lowK top W (W * T) c k).toNat) then bes W (W * T) c k else lowK top W (W * T) c k := rfl
    have bz : -8 ≤ bes W (W * T) c k := by
      unfold bes
      split
      · omega
      · split
        · split <;> omega
        · split
          · split <;> omega
          · split <;> omega
    refine r_besideOf hW hT h2 h3 hc (by omega) hA ?_
    refine ⟨by unfold zR; omega, fun q2 => nx _ (by rw [un, if_neg (by omega)]), fun q2 => ⟨by unfold zR; omega, fun q3 => nx _ (by rw [un, if_pos ⟨q2, Or.inl q3⟩]), fun q3 => ?_⟩⟩
    subst hb
    obtain ⟨u1, u2⟩ := htop (bes W (W * T) c k).toNat (by omega)
    obtain ⟨v1, v2⟩ := htop (lowK top W (W * T) c k).toNat (by omega)
    have i1 : (64 * (t : Int) + bes W (W * T) c k).toNat = 64 * t + (bes W (W * T) c k).toNat := by omega
    have i2 : (64 * (t : Int) + lowK top W (W * T) c k).toNat = 64 * t + (lowK top W (W * T) c k).toNat := by omega
    refine r_topOf (by omega) ?_
    refine r_topOf (by omega) ?_
    rw [i1, i2, u1, v1]
    exact ⟨⟨u2, v2⟩, fun q4 => nx _ (by rw [un, if_neg (by omega)]), fun q4 => nx _ (by rw [un, if_pos ⟨q2, Or.inr q4⟩])⟩
/-- the ground as the works leave it -/
def gr0 (M : zM) (c : Nat) : Int := M 128 c + (if M 130 c = 0 then 0 else 8) - (if M 131 c = 0 then 0 else 8)
/-- the lava of a world of the reference, behind a step -/
def lvR (M : zM) (w : Nat) (s : Nat) : zS3 := lvF (gr0 M) (M 133 w).toNat (M 134 w) (M 135 w) (M 102 51).toNat ((M 102 51).toNat * (M 102 52).toNat) s
def lvFr (M M' : zM) : Prop := ∀ x, x ≠ 137 → x ≠ 138 → x ≠ 139 → x ≠ 140 → x ≠ 141 → M' x = M x
def lvRow (A t : Nat) (z : zS3) (M' : zM) : Prop := ∀ c, c < A → M' 137 (64 * t + c) = z.1 c ∧ M' 138 (64 * t + c) = z.2.1 c
