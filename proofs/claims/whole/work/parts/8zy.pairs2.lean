/-! all pairs of calls keep the relation -/
theorem REL_st {k : Nat} {M M' : zM} (h : REL k M) (f : ∀ x j, dStp x j = false → M' x j = M x j) (hs : rStp M') : REL k M' := by
  have fK := fr_sub dStp_K f
  have b := K_bs fK
  have same : ∀ w' : Nat, w' < 3 → M' (fid w') 8 = M (fid w') 8 ∧ M' (fid w') 10 = M (fid w') 10 ∧ M' (fid w' + 7) = M (fid w' + 7) := fun w' hw' => by
    rcases fid3 hw' with ⟨-, e⟩ | ⟨-, e⟩ | ⟨-, e⟩ <;> rw [e] <;> exact ⟨f _ _ rfl, f _ _ rfl, funext fun j => f _ j rfl⟩
  exact REL_Y h (K_rel h.1 fK) ⟨K_cch h.1 fK h.2.1.1, hs, rLed_e h.1 b same h.2.1.2.2⟩ (fr_sub dK_Y fK)
theorem REL_X {k : Nat} {M M' : zM} (h : REL k M) (hA' : RelA k M') (hv : vCch M') (f : ∀ x j, dX x j = false → M' x j = M x j) : REL k M' := by
  have fY : ∀ x j, dY x j = false → M' x j = M x j := fun x j hd => f x j (by
    cases hx : dX x j with
    | false => rfl
    | true =>
      exfalso
      unfold dX at hx
      rw [Bool.or_eq_true] at hx
      rcases hx with hx | hx
      · rw [dW_Y x j hx] at hd; cases hd
      · rw [dRf_Y x j (dV_Rf x j hx)] at hd; cases hd)
  have b := Y_bs fY
  refine REL_Y h hA' ⟨hv, rStp_e h.1 b (fun w hw => ?_) h.2.1.2.1, rLed_e h.1 b (fun w hw => ?_) h.2.1.2.2⟩ fY
  · rcases fid3 hw with ⟨-, e⟩ | ⟨-, e⟩ | ⟨-, e⟩ <;> rw [e] <;> refine ⟨f _ _ rfl, f _ _ rfl, fun i i1 i2 => ?_⟩ <;> (have : i = 1 ∨ i = 2 ∨ i = 3 := by omega) <;> rcases this with q | q | q <;> rw [q] <;> exact funext fun j => f _ j rfl
  · rcases fid3 hw with ⟨-, e⟩ | ⟨-, e⟩ | ⟨-, e⟩ <;> rw [e] <;> exact ⟨f _ _ rfl, f _ _ rfl, funext fun j => f _ j rfl⟩
theorem REL_thr {k : Nat} {M : zM} (h : REL k M) : REL (k + 1) (zup M 102 2 0) := REL_up (REL_Rf h (fr_up rfl))
theorem all_pairs {E : zE} {k : Nat} {M : zM} (hk : k ≤ 512) (h : REL k M) (hr : ∀ a : Int, zR a → zPP E mX11_rules mX12_rules [.inl a] M (REL (k + 1))) : zPairs E M (REL (k + 1)) := by
  have hA := h.1
  have hc := h.2.1
  have thr := REL_thr h
  refine ⟨fun a b c d e _ _ _ _ _ => ?_, hr, fun a ha => q_fault hA ha thr, fun a ha => ?_, fun a ha => ?_, fun a b c d ha hb hc' hd => ?_, fun a b c ha hb hc' => ?_, fun a b ha hb => ?_, fun a b c ha hb hc' => ?_, fun a ha => ?_, fun a b ha hb => ?_, fun a b c ha hb hc' => ?_, fun a b c ha hb hc' => ?_, fun a b c d e ha hb hc' hd he => ?_, fun a b c d ha hb hc' hd => ?_, fun a b ha hb => ?_, fun a b c d ha hb hc' hd => ?_, fun a ha => ?_, fun a b c d e f ha hb hc' hd he hf => ?_, fun a ha => ?_, fun a b ha hb => ?_, fun a b c ha hb hc' => ?_, fun a ha => ?_, fun a ha => ?_, fun a b ha hb => ?_, fun a b c ha hb hc' => ?_, fun a b ha hb => ?_, fun a b ha hb => ?_, fun a ha => q_count hA (by omega) ha thr⟩
  · refine q_feed hA ?_
    split
    · intro M' f1 f2 f3 f4
      refine k_feed h (fun x x1 x2 x3 x4 => f1 x x1 x2 x3 x4) f3 f4
    · exact thr
  · refine q_hours hA ha ?_
    split
    · rename_i g
      exact k_hours h g rfl
    · exact thr
  · refine q_post hA ha ?_
    split
    · rename_i g
      exact k_post h g rfl
    · exact thr
  · refine q_read hA ha hb hc' hd ?_
    split
    · rename_i g
      intro M1 hM1
      exact k_read h g.1 g.2.1 g.2.2.1 hd g.2.2.2 hM1 rfl
    · exact thr
  · refine q_reading hA ha hb hc' ?_
    intro M' f1 f2
    refine REL_up (REL_Rf h (fun x j hd => ?_))
    have kk : ∀ y i, x = y → j = i → dRf y i = true → False := fun y i e1 e2 e3 => by
      rw [e1, e2, e3] at hd
      cases hd
    by_cases q : x = 102
    · rw [q]
      exact f2 j (fun q2 => kk _ _ q q2 rfl)
    · rw [f1 x (fun q2 => kk _ _ q2 rfl rfl) (fun q2 => kk _ _ q2 rfl rfl) q]
  · exact q_raw hA hc.1 ha hb (fun M' a1 a2 a3 => REL_up (REL_X h a1 a2 a3))
  · exact q_tries hA hc.1 ha hb hc' (fun M' a1 a2 a3 => REL_up (REL_X h a1 a2 a3))
  · exact q_level hA hc.1 ha (fun M' a1 a2 a3 => REL_up (REL_X h a1 a2 a3))
  · refine q_land hA ha hb ?_
    split
    · rename_i g
      intro M1 M' hM1 f1 f2 f3 f4 f5 f6
      exact k_land h g.1 g.2 hM1 f1 f2 f3 f4 f5 f6
    · exact thr
  · refine q_ground hA ha hb hc' ?_
    split
    · rename_i g
      exact k_ground h g.1 g.2.1 g.2.2.1 rfl
    · exact thr
  · refine q_work hA (by omega) ha hb hc' ?_
    by_cases g : (0 ≤ a ∧ a < M 102 51 * M 102 52) ∧ (if c = 1 then (if b = 0 then M 130 a.toNat else M 131 a.toNat) = 0 ∧ M 129 a.toNat = 0 ∧ M 102 57 < 4 else (if b = 0 then M 130 a.toNat else M 131 a.toNat) = 1)
    · rw [if_pos g]
      intro M1 hM1
      have w4 : c = 1 → M 102 57 < 4 := fun q => by
        have := g.2
        rw [if_pos q] at this
        exact this.2.2
      rcases hb with q | q
      · rw [if_pos q]
        rw [if_pos q] at hM1
        rw [hM1]
        exact k_workT (C := a.toNat) (o := c) (z := c + 2 * M 131 a.toNat) (A := 130) h (Or.inl rfl) hc' (by rw [if_pos rfl]) w4 rfl
      · rw [if_neg (by omega)]
        rw [if_neg (by omega)] at hM1
        rw [hM1]
        exact k_workT (C := a.toNat) (o := c) (z := M 130 a.toNat + 2 * c) (A := 131) h (Or.inr rfl) hc' (by rw [if_neg (by decide)]) w4 rfl
    · rw [if_neg g]
      exact thr
  · refine q_world hA ha hb hc' hd he ?_
    split
    · rename_i g
      intro a' M1 ha' hM1
      have wr : 0 ≤ M 102 58 := by
        obtain ⟨-, -, -, -, -, -, -, -, ⟨-, wr, -⟩, -⟩ := hA
        omega
      obtain ⟨W, hW⟩ : ∃ W : Nat, M 102 58 = (W : Int) := ⟨(M 102 58).toNat, by omega⟩
      rw [hM1]
      rw [hW, Int.toNat_natCast] at ha'
      rw [hW, Int.toNat_natCast]
      refine k_worldA (a := a') (W := W) h hW ?_ g.2.1 g.2.2.1 g.2.2.2.1 g.2.2.2.2.1 g.2.2.2.2.2 rfl
      have c : W = 0 ∨ W = 1 ∨ W = 2 := by omega
      rcases c with q | q | q <;> rw [q] at ha'
      · exact Or.inl ⟨q, ha'⟩
      · exact Or.inr (Or.inl ⟨q, ha'⟩)
      · exact Or.inr (Or.inr ⟨q, ha'⟩)
    · exact thr
  · exact q_lava hA hc.2.1 ha hb hc' hd (fun M' a1 a2 => REL_up (REL_st h a1 a2))
  · exact q_reached hA hc.2.1 ha hb (fun M' a1 a2 => REL_up (REL_st h a1 a2))
  · refine q_town hA ha hb hc' hd ?_
    split
    · rename_i g
      split
      · rename_i g5
        intro M1 hM1
        rw [hM1]
        exact k_town h g.1 g.2.1 g.2.2.1 g.2.2.2 g5 rfl
      · exact k_es h rfl
    · exact thr
  · refine q_shelter hA ha ?_
    split
    · rename_i g
      split
      · rename_i g5
        intro M1 hM1
        rw [hM1]
        exact k_shelter h g g5 rfl
      · exact k_es h rfl
    · exact thr
  · refine q_road hA ha hb hc' hd he hf ?_
    split
    · rename_i g
      split
      · rename_i g5
        intro M1 hM1
        rw [hM1]
        exact k_road h g g5 rfl
      · exact k_es h rfl
    · exact thr
  · exact q_warned hA hc.1 ha (fun M' a1 a2 a3 => REL_up (REL_X h a1 a2 a3))
  · exact q_ledOut hA hc ha hb (fun M' a1 a2 a3 => REL_up (REL_Y h a1 a2 a3))
  · exact q_cut hA hc ha hb hc' (fun M' a1 a2 a3 => REL_up (REL_Y h a1 a2 a3))
  · exact q_cost hA hc ha (fun M' a1 a2 a3 => REL_up (REL_Y h a1 a2 a3))
  · refine q_candidate hA ha ?_
    split
    · rename_i g
      exact k_candidate h g.1 g.2.1 rfl
    · exact thr
  · exact q_best (by omega) hA hc h.2.2.2.1 h.2.2.1 ha hb (fun M' a1 a2 a3 a4 a5 => REL_up ⟨a1, a2, a4, a3, wds_e (funext fun j => a5 _ j (by decide) rfl) h.2.2.2.2⟩)
  · refine q_wind ha hb hc' ?_
    split
    · rename_i g
      exact k_wind h g.2.1 g.2.2 rfl
    · exact thr
  · exact q_ash hA ha hb thr
  · refine q_look hA ha hb ?_
    intro M' f1 f2
    refine REL_up (REL_out h f1 f2)
