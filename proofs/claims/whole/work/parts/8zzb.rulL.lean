/-! the reader of rules: a sign of one value waits (the reference) -/
def ofM (M : zM) (n w : Nat) (k : Int) : zM := if k = 11 then zup (wfM (gwM M n k 0) w k (64 + (n : Int))) 102 49 0 else wfM (gwM M n k 0) w k (64 + (n : Int))
theorem gw_ws (M : zM) (n : Nat) (k v : Int) : gwM M n k v 102 42 = M 102 42 := by
  unfold gwM
  rw [zup_ne _ _ _ (by decide), zup_ne _ _ _ (by decide), zup_ne _ _ _ (by decide), zup_ne _ _ _ (by decide), zup_q, if_neg (by decide)]
theorem r_ofOne {E : zE} {M : zM} {Q : Int → zM → Prop} {n w : Nat} {k : Int} (hk : k = 11 ∨ k = 12) (hn : M 102 38 = (n : Int)) (hb : n ≤ 64) (hw : M 102 42 = (w : Int)) (hc : w < 100) (h1 : n < 64 → zP E mX12_take [.inr (.inr 102)] (ofM M n w k) (fun _ M' => Q 1 M')) (h2 : n = 64 → Q 0 (wgM M 2)) : zP E mX12_ofOne [.inr (.inr 102), .inl k] M Q := by
  have zk : zR k := by unfold zR; omega
  refine vcX12_ofOne _ ?_
  refine r_grown hn hb (fun q => ⟨by unfold zR; omega, fun _ => ?_, fun q2 => absurd q2 (by omega)⟩) (fun q => ⟨zRd rfl, fun q2 => absurd q2 (by decide), fun _ => h2 q⟩)
  have h1 := h1 q
  unfold ofM at h1
  refine r_waitFor (by rw [gw_ws]; exact hw) hc ⟨zk, fun q3 => ?_, fun q3 M7 m7 => ?_⟩
  · rw [if_neg q3] at h1
    exact h1
  · rw [if_pos q3] at h1
    rw [m7]
    exact h1
