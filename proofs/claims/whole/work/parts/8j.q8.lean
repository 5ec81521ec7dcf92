/-! pairs: cut, cost -/
noncomputable def clF (M : zM) : Nat → Int
  | 0 => 0
  | w + 1 => clF M w + M 136 w * (ap M (M 102 69).toNat - svF M w)
noncomputable def cbF (M : zM) : Nat → Int
  | 0 => 0
  | w + 1 => cbF M w + M 136 w * brF M w
theorem bs_br {M M' : zM} (b : bs M M') (w : Nat) : brF M' w = brF M w := by
  unfold brF
  rw [b 102 51 (by decide) rfl, b 102 52 (by decide) rfl, bs_sc b]
  refine sm_congr (fun j hj => ?_)
  unfold buF
  rw [b 129 j (by decide) rfl]
theorem bs_cost {k : Nat} {M M' : zM} (hA : RelA k M) (b : bs M M') (w : Nat) : clF M' w = clF M w ∧ cbF M' w = cbF M w := by
  induction w with
  | zero => exact ⟨rfl, rfl⟩
  | succ w ih =>
    unfold clF cbF
    rw [ih.1, ih.2, b 136 w (by decide) rfl, b 102 69 (by decide) rfl, bs_ap b, (bs_net hA b w).2, bs_br b]
    exact ⟨rfl, rfl⟩
theorem mul_r {a b : Int} {n m : Int} (ha : 0 ≤ a ∧ a ≤ n) (hb : 0 ≤ b ∧ b ≤ m) (hm : 0 ≤ m) : 0 ≤ a * b ∧ a * b ≤ n * m := ⟨Int.mul_nonneg ha.1 hb.1, Int.le_trans (Int.mul_le_mul_of_nonneg_right ha.2 hb.1) (Int.mul_le_mul_of_nonneg_left hb.2 (by omega))⟩
theorem cost_r {k : Nat} {M : zM} (hA : RelA k M) (hv : ∀ w : Nat, (w : Int) < M 102 58 → 0 ≤ svF M w ∧ svF M w ≤ ap M (M 102 69).toNat) (w : Nat) (hw : (w : Int) ≤ M 102 58) : (0 ≤ clF M w ∧ clF M w ≤ 800000 * w) ∧ (0 ≤ cbF M w ∧ cbF M w ≤ 800000 * w) := by
  induction w with
  | zero => exact ⟨⟨Int.le_refl _, Int.le_refl _⟩, Int.le_refl _, Int.le_refl _⟩
  | succ w ih =>
    have ih := ih (by omega)
    have ar := ap_r hA
    have br := br_r (w := w) hA
    have v := hv w (by omega)
    obtain ⟨-, -, -, -, -, -, -, -, ⟨wc, wr, wwf, wb⟩, -⟩ := hA
    have wt := (wb w (by omega)).2.2.2.2
    have m1 := mul_r (a := M 136 w) (b := ap M (M 102 69).toNat - svF M w) (n := 99) (m := 8000) (by omega) (by omega) (by omega)
    have m2 := mul_r (a := M 136 w) (b := brF M w) (n := 99) (m := 6400) (by omega) (by omega) (by omega)
    have u1 : clF M (w + 1) = clF M w + M 136 w * (ap M (M 102 69).toNat - svF M w) := rfl
    have u2 : cbF M (w + 1) = cbF M w + M 136 w * brF M w := rfl
    rw [u1, u2]
    omega
set_option maxHeartbeats 4000000 in
theorem r_costs {E : zE} {M M7 : zM} {Q : Int → zM → Prop} {k : Nat} (hA : RelA k M) (hc : cch M) (f7 : ∀ x j, dRf x j = false → M7 x j = M x j) (l7 : ∀ n, n < 100 → M7 154 n = lvlF M n)
    (h : ∀ M9 : zM, (∀ x j, dRf x j = false → M9 x j = M x j) → (∀ n, n < 100 → M9 154 n = lvlF M n) → (∀ j, j ≠ 98 → j ≠ 99 → dLd 102 j = false → M9 102 j = M7 102 j) → M9 102 98 = clF M (M 102 58).toNat → M9 102 99 = cbF M (M 102 58).toNat → Q 0 M9) : zP E mX12_costs [.inr (.inr 102)] M7 Q := by
  obtain ⟨-, -, -, -, -, -, hld, -, ⟨wc, wr, wwf, wb⟩, ⟨p1, p2, p3, -⟩, -⟩ := id hA
  obtain ⟨W, hW⟩ : ∃ W : Nat, M 102 58 = (W : Int) := ⟨(M 102 58).toNat, by omega⟩
  obtain ⟨P, hP⟩ : ∃ P : Nat, M 102 69 = (P : Int) := ⟨(M 102 69).toNat, by omega⟩
  obtain ⟨A, hWT⟩ : ∃ A : Nat, M 102 51 * M 102 52 = (A : Int) := ⟨(M 102 51 * M 102 52).toNat, by have := (wt_r hld).1; omega⟩
  have hA64 : A ≤ 64 := by have := (wt_r hld).1; omega
  rw [hW, Int.toNat_natCast] at h
  refine vcX12_costs (fun m l1 M' => ∃ w : Nat, l1 = (w : Int) ∧ w ≤ W ∧ m = 10 - w ∧ (∀ x j, dRf x j = false → M' x j = M x j) ∧ (∀ n, n < 100 → M' 154 n = lvlF M n) ∧ (∀ j, j ≠ 98 → j ≠ 99 → dLd 102 j = false → M' 102 j = M7 102 j) ∧ M' 102 98 = clF M w ∧ M' 102 99 = cbF M w) ?_ ?_
  · intro M1 h1 M2 h2
    have f1 : ∀ x j, dRf x j = false → M1 x j = M7 x j := by rw [h1]; exact fr_up rfl
    have f2 : ∀ x j, dRf x j = false → M2 x j = M1 x j := by rw [h2]; exact fr_up rfl
    refine ⟨10 - 0, 0, rfl, by omega, rfl, fr_t (fr_t f7 f1) f2, fun n hn => by rw [h2, zup_ne _ _ _ (by decide), h1, zup_ne _ _ _ (by decide)]; exact l7 n hn, fun j j1 j2 _ => by rw [h2, zup_a, up1_n _ _ j2, h1, zup_a, up1_n _ _ j1], ?_, ?_⟩
    · rw [h2, zup_a, up1_n _ _ (by decide), h1, zup_a, up1_s]; rfl
    · rw [h2, zup_a, up1_s]; rfl
  · rintro m l1 M' ⟨w, rfl, hw, rfl, f', l', o', c1, c2⟩
    have ew : M' 102 58 = (W : Int) := by rw [f' 102 58 rfl]; exact hW
    rw [ew]
    refine ⟨⟨by unfold zR; omega, by unfold zR; omega⟩, fun q => ?_, fun q => ?_⟩
    · have : w = W := by omega
      subst this
      exact h M' f' l' o' c1 c2
    · have hw1 : (w : Int) < M 102 58 := by omega
      refine r_leadL hA hc.1 f' l' hw1 ?_
      intro M4 f4 e1 e2 e3 e4 e5
      have fr4 : ∀ x j, dRf x j = false → M4 x j = M x j := fr_t f' (fr_sub dLd_Rf f4)
      have b4 := bs_fr fr4
      refine ⟨by omega, ?_⟩
      refine r_peopleB (P := P) (by rw [fr4 102 69 rfl]; exact hP) (by omega) (fun p hp => by rw [fr4 142 p rfl]; exact tn01 hA p (by omega)) ?_
      rw [bs_ap b4, Int.toNat_natCast, fr4 136 w rfl, e3, f4 102 98 rfl, c1]
      intro M7' h7'
      have f7' : ∀ x j, dRf x j = false → M7' x j = M4 x j := by rw [h7']; exact fr_up rfl
      have fr7 := fr_t fr4 f7'
      have b7 := bs_fr fr7
      refine ⟨by omega, ?_⟩
      have ewt : M7' 102 51 * M7' 102 52 = (A : Int) := by rw [fr7 102 51 rfl, fr7 102 52 rfl]; exact hWT
      refine r_buriedB (sc := scF M w) ewt hA64 (fun j hj => ⟨by rw [h7', zup_ne _ _ _ (by decide)]; exact e4 j (by rw [hWT]; omega), (lvR_ok (s := 12) hA hw1 (by omega) j (by rw [hWT]; omega)).2.2⟩) ?_
      have eB : sm A (buF M7' (scF M w)) = brF M w := by
        unfold brF
        rw [hWT, Int.toNat_natCast]
        refine sm_congr (fun j hj => ?_)
        unfold buF
        rw [fr7 129 j rfl]
      have cb7 : M7' 102 99 = cbF M w := by rw [h7', zup_a, up1_n _ _ (by decide), f4 102 99 rfl]; exact c2
      rw [eB, fr7 136 w rfl, cb7]
      intro M10 h10
      have f10 : ∀ x j, dRf x j = false → M10 x j = M7' x j := by rw [h10]; exact fr_up rfl
      refine ⟨10 - (w + 1), by omega, w + 1, by omega, by omega, rfl, fr_t fr7 f10, fun n hn => ?_, fun j j1 j2 j3 => ?_, ?_, ?_⟩
      · rw [h10, zup_ne _ _ _ (by decide), h7', zup_ne _ _ _ (by decide), f4 154 n rfl]
        exact l' n hn
      · rw [h10, zup_a, up1_n _ _ j2, h7', zup_a, up1_n _ _ j1, f4 102 j j3]
        exact o' j j1 j2 j3
      · rw [h10, zup_a, up1_n _ _ (by decide), h7', zup_a, up1_s]
        show _ = clF M w + M 136 w * (ap M (M 102 69).toNat - svF M w)
        rw [hP, Int.toNat_natCast]
      · rw [h10, zup_a, up1_s]
        rfl
set_option maxHeartbeats 4000000 in
/-- the class's cost of those lost: all worlds are led behind it -/
theorem c_lostCost {E : zE} {M : zM} {Q : Int → zM → Prop} {k : Nat} (hA : RelA k M) (hc : cch M) (hn : M 0 7 = 1)
    (h : ∀ M' : zM, (∀ x j, dK x j = false → M' x j = M x j) → RelA k M' → cch M' → (∀ w : Nat, (w : Int) < M 102 58 → M' (fid w) 10 = 1 ∧ ldOk M' (fid w) w) → Q (clF M (M 102 58).toNat) M') : zP E mX11_lostCost [.inr (.inr 0)] M Q := by
  obtain ⟨-, -, -, -, -, -, -, -, ⟨wc, wr, wwf, wb⟩, hpl, -⟩ := id hA
  obtain ⟨W, hW⟩ : ∃ W : Nat, M 102 58 = (W : Int) := ⟨(M 102 58).toNat, by omega⟩
  rw [hW, Int.toNat_natCast] at h
  refine vcX11_lostCost (fun m l1 l2 l3 M' => l1 = ap M (M 102 69).toNat ∧ ∃ w : Nat, l3 = (w : Int) ∧ w ≤ W ∧ m = 10 - w ∧ (∀ x j, dK x j = false → M' x j = M x j) ∧ cch M' ∧ (∀ w' : Nat, w' < w → M' (fid w') 10 = 1) ∧ l2 = clF M w) ?_ ?_
  · refine c_people hpl ?_
    exact ⟨10 - 0, rfl, 0, rfl, by omega, rfl, fun _ _ _ => rfl, hc, fun w' hw' => by omega, rfl⟩
  · rintro m l1 l2 l3 M' ⟨rfl, w, rfl, hw, rfl, f', hc', hl', rfl⟩
    have hA' := K_rel hA f'
    have b' := K_bs f'
    have ew : M' 0 11 = (W : Int) := by rw [f' 0 11 rfl, wc, hW]
    rw [ew]
    refine ⟨⟨by unfold zR; omega, by unfold zR; omega⟩, fun q => ?_, fun q => ?_⟩
    · have : w = W := by omega
      subst this
      refine h M' f' hA' hc' (fun w' hw' => ⟨hl' w' (by omega), (hc'.2.2 w' (by rw [b' _ _ (by decide) rfl]; omega)).2 (hl' w' (by omega))⟩)
    · have w3 : w < 3 := by omega
      have hF3 : zIs_0 (fid w : Int) := by
        rcases fid3 w3 with ⟨-, e⟩ | ⟨-, e⟩ | ⟨-, e⟩ <;> rw [e] <;> unfold zIs_0 <;> simp
      have hWl : M' 33 w = (wid w : Int) := by
        obtain ⟨⟨a0, a1, a2⟩, -⟩ := hA'.1
        have : w = 0 ∨ w = 1 ∨ w = 2 := by omega
        rcases this with rfl | rfl | rfl
        · exact a0
        · exact a1
        · exact a2
      have ewt : M' (wid w) 4 = M 136 w := by
        obtain ⟨-, -, -, -, -, -, -, -, ⟨-, -, wwf', -⟩, -⟩ := hA'
        rw [(wwf' w w3).2.2.2.2]
        exact b' _ _ (by decide) rfl
      rw [Int.toNat_natCast, hWl, Int.toNat_natCast, ewt]
      refine ⟨by omega, (wid3 w3).1, ?_⟩
      refine c_led hA' hc'.2.1 hc'.2.2 (by rw [f' 0 7 rfl]; exact hn) hc'.1.2.2 (by rw [b' _ _ (by decide) rfl, hW]; omega) ?_
      intro M5 f5 s5 l5 ld5 ok5 oth5
      have fr5 := fr_t f' f5
      have b5 := K_bs fr5
      have o1 := ok5.1
      rw [(bs_net hA b5 w).2] at o1
      rw [Int.toNat_natCast, o1]
      refine ⟨hF3, 10 - (w + 1), by omega, rfl, w + 1, by omega, by omega, rfl, fr5, ⟨K_cch hA' f5 hc'.1, s5, l5⟩, fun w' hw' => ?_, rfl⟩
      by_cases q2 : w' = w
      · rw [q2]; exact ld5
      · exact oth5 w' (by omega) (hl' w' (by omega))
theorem c_buriedCost {E : zE} {M : zM} {Q : Int → zM → Prop} {k : Nat} (hA : RelA k M) (hc : cch M)
    (h : ∀ M' : zM, (∀ x j, dK x j = false → M' x j = M x j) → RelA k M' → cch M' → (∀ w : Nat, w < 3 → M' (fid w) 10 = M (fid w) 10) → Q (cbF M (M 102 58).toNat) M') : zP E mX11_buriedCost [.inr (.inr 0)] M Q := by
  obtain ⟨-, -, -, -, -, -, -, -, ⟨wc, wr, wwf, wb⟩, -⟩ := id hA
  obtain ⟨W, hW⟩ : ∃ W : Nat, M 102 58 = (W : Int) := ⟨(M 102 58).toNat, by omega⟩
  rw [hW, Int.toNat_natCast] at h
  refine vcX11_buriedCost (fun m l1 l2 M' => ∃ w : Nat, l2 = (w : Int) ∧ w ≤ W ∧ m = 10 - w ∧ (∀ x j, dK x j = false → M' x j = M x j) ∧ cch M' ∧ (∀ w : Nat, w < 3 → M' (fid w) 10 = M (fid w) 10) ∧ l1 = cbF M w) ⟨10 - 0, 0, rfl, by omega, rfl, fun _ _ _ => rfl, hc, fun _ _ => rfl, rfl⟩ ?_
  rintro m l1 l2 M' ⟨w, rfl, hw, rfl, f', hc', hl', rfl⟩
  have hA' := K_rel hA f'
  have b' := K_bs f'
  have ew : M' 0 11 = (W : Int) := by rw [f' 0 11 rfl, wc, hW]
  rw [ew]
  refine ⟨⟨by unfold zR; omega, by unfold zR; omega⟩, fun q => ?_, fun q => ?_⟩
  · have : w = W := by omega
    subst this
    exact h M' f' hA' hc' hl'
  · have w3 : w < 3 := by omega
    have hF3 : zIs_0 (fid w : Int) := by
      rcases fid3 w3 with ⟨-, e⟩ | ⟨-, e⟩ | ⟨-, e⟩ <;> rw [e] <;> unfold zIs_0 <;> simp
    have hWl : M' 33 w = (wid w : Int) := by
      obtain ⟨⟨a0, a1, a2⟩, -⟩ := hA'.1
      have : w = 0 ∨ w = 1 ∨ w = 2 := by omega
      rcases this with rfl | rfl | rfl
      · exact a0
      · exact a1
      · exact a2
    have ewt : M' (wid w) 4 = M 136 w := by
      obtain ⟨-, -, -, -, -, -, -, -, ⟨-, -, wwf', -⟩, -⟩ := hA'
      rw [(wwf' w w3).2.2.2.2]
      exact b' _ _ (by decide) rfl
    rw [Int.toNat_natCast, hWl, Int.toNat_natCast, ewt]
    refine ⟨by omega, (wid3 w3).1, ?_⟩
    refine c_stepped hA' hc'.2.1 (by rw [b' _ _ (by decide) rfl, hW]; omega) ?_
    intro M2 f2 s2 st2 ok2
    have fK := fr_sub dStp_K f2
    have b2' := K_bs fK
    have fr2 := fr_t f' fK
    have b2 := K_bs fr2
    have same : ∀ w' : Nat, w' < 3 → M2 (fid w') 8 = M' (fid w') 8 ∧ M2 (fid w') 10 = M' (fid w') 10 ∧ M2 (fid w' + 7) = M' (fid w' + 7) := fun w' hw' => by
      rcases fid3 hw' with ⟨-, e⟩ | ⟨-, e⟩ | ⟨-, e⟩ <;> rw [e] <;> exact ⟨f2 _ _ rfl, f2 _ _ rfl, funext fun j => f2 _ j rfl⟩
    have eB : M2 (fid w) 3 = brF M w := by
      rw [ok2.2.2]
      exact bs_br b2 w
    rw [Int.toNat_natCast, eB]
    exact ⟨hF3, 10 - (w + 1), by omega, w + 1, by omega, by omega, rfl, fr2, ⟨K_cch hA' fK hc'.1, s2, rLed_e hA' b2' same hc'.2.2⟩, fun w' hw' => by rw [(same w' hw').2.1]; exact hl' w' hw', rfl⟩
