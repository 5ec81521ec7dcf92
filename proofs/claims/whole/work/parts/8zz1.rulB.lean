/-! the reference's reader of rules: its small methods -/
def wgM (M : zM) (k : Int) : zM := zup (zup M 102 15 k) 102 16 (M 102 21)
theorem r_wrong {E : zE} {M : zM} {Q : Int → zM → Prop} {k : Int} (h : Q 0 (wgM M k)) : zP E mX12_wrong [.inr (.inr 102), .inl k] M Q := by
  refine vcX12_wrong _ ?_
  intro M1 h1 M2 h2
  have e : M1 102 21 = M 102 21 := by rw [h1, zup_q, if_neg (by decide)]
  rw [e, h1] at h2
  rw [h2]
  exact h
def wgt (k : Int) : Int := if k = 100 then 0 else if k = 14 then 1 else if k = 13 then 2 else if k = 12 then 3 else if k < 7 then 4 else if k < 9 then 5 else if k < 11 then 6 else 7
theorem r_weight {E : zE} {M : zM} {Q : Int → zM → Prop} {k : Int} (hk : zR k) (h : Q (wgt k) M) : zP E mX12_weight [.inl k] M Q := by
  refine vcX12_weight _ ?_
  unfold wgt at h
  refine ⟨hk, fun q1 => ⟨hk, fun q2 => ⟨hk, fun q3 => ⟨hk, fun q4 => ⟨hk, fun q5 => ⟨hk, fun q6 => ⟨hk, fun q7 => ?_, fun q7 => ?_⟩, fun q6 => ?_⟩, fun q5 => ?_⟩, fun q4 => ?_⟩, fun q3 => ?_⟩, fun q2 => ?_⟩, fun q1 => ?_⟩
  · rw [if_neg q1, if_neg q2, if_neg q3, if_neg q4, if_neg (show ¬ k < 7 by omega), if_neg (show ¬ k < 9 by omega), if_neg (show ¬ k < 11 by omega)] at h; exact h
  · rw [if_neg q1, if_neg q2, if_neg q3, if_neg q4, if_neg (show ¬ k < 7 by omega), if_neg (show ¬ k < 9 by omega), if_pos q7] at h; exact h
  · rw [if_neg q1, if_neg q2, if_neg q3, if_neg q4, if_neg (show ¬ k < 7 by omega), if_pos q6] at h; exact h
  · rw [if_neg q1, if_neg q2, if_neg q3, if_neg q4, if_pos q5] at h; exact h
  · rw [if_neg q1, if_neg q2, if_neg q3, if_pos q4] at h; exact h
  · rw [if_neg q1, if_neg q2, if_pos q3] at h; exact h
  · rw [if_neg q1, if_pos q2] at h; exact h
  · rw [if_pos q1] at h; exact h
def gwM (M : zM) (n : Nat) (k v : Int) : zM := zup (zup (zup (zup (zup M 102 38 ((n : Int) + 1)) 113 (64 + n) k) 114 (64 + n) (-1)) 115 (64 + n) (-1)) 116 (64 + n) v
theorem r_grown {E : zE} {M : zM} {Q : Int → zM → Prop} {n : Nat} {k v : Int} (hn : M 102 38 = (n : Int)) (hb : n ≤ 64) (h1 : n < 64 → Q (64 + (n : Int)) (gwM M n k v)) (h2 : n = 64 → Q (-1) (wgM M 2)) : zP E mX12_grown [.inr (.inr 102), .inl k, .inl v] M Q := by
  refine vcX12_grown _ _ ?_
  have e : ((64 : Int) + (n : Int)).toNat = 64 + n := by omega
  rw [hn, e]
  refine ⟨by unfold zR; omega, fun q M1 m1 => ⟨by omega, fun M2 m2 => ⟨by omega, fun M3 m3 => ⟨by omega, fun M4 m4 => ⟨by omega, fun M5 m5 => ?_⟩⟩⟩⟩, fun q => r_wrong (h2 (by omega))⟩
  rw [m5, m4, m3, m2, m1]
  exact h1 (by omega)
def doM (M : zM) (o h : Nat) (a : Int) : zM := zup (zup (zup (zup M 119 (64 + o) a) 102 39 ((o : Int) + 1)) 125 h a) 102 44 ((h : Int) + 1)
theorem r_done {E : zE} {M : zM} {Q : Int → zM → Prop} {o hh : Nat} {a : Int} (ho : M 102 39 = (o : Int)) (hb : o < 64) (hl : M 102 44 = (hh : Int)) (hc : hh < 100) (h : Q 0 (doM M o hh a)) : zP E mX12_done [.inr (.inr 102), .inl a] M Q := by
  refine vcX12_done _ ?_
  have e : ((64 : Int) + (o : Int)).toNat = 64 + o := by omega
  rw [ho, e]
  refine ⟨by omega, fun M1 m1 M2 m2 => ?_⟩
  have e1 : M1 102 39 = (o : Int) := by rw [m1, zup_ne _ _ _ (by decide)]; exact ho
  rw [e1] at m2
  have e2 : M2 102 44 = (hh : Int) := by rw [m2, zup_q, if_neg (by decide), m1, zup_ne _ _ _ (by decide)]; exact hl
  rw [e2, Int.toNat_natCast]
  refine ⟨by omega, fun M3 m3 M4 m4 => ?_⟩
  have e3 : M3 102 44 = (hh : Int) := by rw [m3, zup_ne _ _ _ (by decide)]; exact e2
  rw [e3, m3, m2, m1] at m4
  rw [m4]
  exact h
theorem r_drop {E : zE} {M : zM} {Q : Int → zM → Prop} {hh : Nat} (hl : M 102 44 = (hh : Int) + 1) (hc : hh < 100) (h : Q (M 125 hh) (zup M 102 44 (hh : Int))) : zP E mX12_drop [.inr (.inr 102)] M Q := by
  refine vcX12_drop ?_
  intro M1 m1
  rw [hl, show (hh : Int) + 1 - 1 = (hh : Int) by omega] at m1
  have e1 : M1 102 44 = (hh : Int) := by rw [m1, zup_q, if_pos ⟨rfl, rfl⟩]
  have e2 : M1 125 = M 125 := by rw [m1, zup_ne _ _ _ (by decide)]
  rw [e1, e2, Int.toNat_natCast]
  refine ⟨by omega, ?_⟩
  rw [m1]
  exact h
def wfM (M : zM) (w : Nat) (k a : Int) : zM := zup (zup (zup M 123 w k) 124 w a) 102 42 ((w : Int) + 1)
theorem r_waitFor {E : zE} {M : zM} {Q : Int → zM → Prop} {w : Nat} {k a : Int} (hw : M 102 42 = (w : Int)) (hc : w < 100) (h : Q 0 (wfM M w k a)) : zP E mX12_waitFor [.inr (.inr 102), .inl k, .inl a] M Q := by
  refine vcX12_waitFor _ _ ?_
  rw [hw, Int.toNat_natCast]
  refine ⟨by omega, fun M1 m1 => ?_⟩
  have e1 : M1 102 42 = (w : Int) := by rw [m1, zup_ne _ _ _ (by decide)]; exact hw
  rw [e1, Int.toNat_natCast]
  refine ⟨by omega, fun M2 m2 M3 m3 => ?_⟩
  have e2 : M2 102 42 = (w : Int) := by rw [m2, zup_ne _ _ _ (by decide)]; exact e1
  rw [e2, m2, m1] at m3
  rw [m3]
  exact h
/-- one knot leaves those that wait: of one value, of two -/
def b1M (M : zM) (o h w : Nat) (a : Nat) : zM := doM (zup (zup (zup M 102 42 (w : Int)) 102 44 (h : Int)) 114 (64 + a) (M 125 h)) o h (64 + (a : Int))
def b2M (M : zM) (o h w : Nat) (a : Nat) : zM := doM (zup (zup (zup (zup (zup M 102 42 (w : Int)) 102 44 ((h : Int) + 1)) 115 (64 + a) (M 125 (h + 1))) 102 44 (h : Int)) 114 (64 + a) (M 125 h)) o h (64 + (a : Int))
/-- what binding leaves where it was -/
def dBn (x j : Nat) : Bool := (x == 102 && [42, 44, 39].contains j) || ((x == 114 || x == 115 || x == 119) && 64 ≤ j) || x == 125
theorem dBn_g (x j : Nat) (h : x = 114 ∨ x = 115 ∨ x = 119) : dBn x (64 + j) = true := by
  unfold dBn
  have : (64 ≤ 64 + j) := by omega
  rcases h with rfl | rfl | rfl <;> simp
theorem b1_fr (M : zM) (o h w a : Nat) : ∀ x j, dBn x j = false → b1M M o h w a x j = M x j := by
  have r : ∀ x j, dBn x j = false → M x j = M x j := fun _ _ _ => rfl
  have hd : ∀ j, dBn 125 j = true := fun j => by unfold dBn; simp
  exact fz_up rfl (fz_up (hd _) (fz_up rfl (fz_up (dBn_g _ _ (by decide)) (fz_up (dBn_g _ _ (by decide)) (fz_up rfl (fz_up rfl r))))))
theorem b2_fr (M : zM) (o h w a : Nat) : ∀ x j, dBn x j = false → b2M M o h w a x j = M x j := by
  have r : ∀ x j, dBn x j = false → M x j = M x j := fun _ _ _ => rfl
  have hd : ∀ j, dBn 125 j = true := fun j => by unfold dBn; simp
  exact fz_up rfl (fz_up (hd _) (fz_up rfl (fz_up (dBn_g _ _ (by decide)) (fz_up (dBn_g _ _ (by decide)) (fz_up rfl (fz_up (dBn_g _ _ (by decide)) (fz_up rfl (fz_up rfl r))))))))
theorem b1_q (M : zM) (o h w a : Nat) : b1M M o h w a 102 42 = (w : Int) ∧ b1M M o h w a 102 44 = (h : Int) + 1 ∧ b1M M o h w a 102 39 = (o : Int) + 1 ∧ (∀ j, b1M M o h w a 119 j = if j = 64 + o then 64 + (a : Int) else M 119 j) ∧ (∀ j, b1M M o h w a 114 j = if j = 64 + a then M 125 h else M 114 j) ∧ (∀ j, b1M M o h w a 115 j = M 115 j) ∧ (∀ j, b1M M o h w a 125 j = if j = h then 64 + (a : Int) else M 125 j) := by
  unfold b1M doM
  refine ⟨?_, ?_, ?_, fun j => ?_, fun j => ?_, fun j => ?_, fun j => ?_⟩ <;> simp [zup_q]
theorem b2_q (M : zM) (o h w a : Nat) : b2M M o h w a 102 42 = (w : Int) ∧ b2M M o h w a 102 44 = (h : Int) + 1 ∧ b2M M o h w a 102 39 = (o : Int) + 1 ∧ (∀ j, b2M M o h w a 119 j = if j = 64 + o then 64 + (a : Int) else M 119 j) ∧ (∀ j, b2M M o h w a 114 j = if j = 64 + a then M 125 h else M 114 j) ∧ (∀ j, b2M M o h w a 115 j = if j = 64 + a then M 125 (h + 1) else M 115 j) ∧ (∀ j, b2M M o h w a 125 j = if j = h then 64 + (a : Int) else M 125 j) := by
  unfold b2M doM
  refine ⟨?_, ?_, ?_, fun j => ?_, fun j => ?_, fun j => ?_, fun j => ?_⟩ <;> simp [zup_q]
