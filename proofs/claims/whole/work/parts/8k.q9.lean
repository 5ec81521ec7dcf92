/-! pairs: cost, cut -/
set_option maxHeartbeats 4000000 in
theorem q_cost {E : zE} {k0 : Nat} {M : zM} {P' : zM → Prop} {t : Int} (hA : RelA k0 M) (hc : cch M) (h1 : zR t)
    (h : ∀ M' : zM, RelA k0 M' → cch M' → (∀ x j, dY x j = false → M' x j = M x j) → P' M') : zPP E mX11_cost mX12_cost [.inl t] M P' := by
  obtain ⟨-, -, -, -, -, -, -, -, ⟨wc, wr, -⟩, -⟩ := id hA
  have ref : ∀ (M1 : zM) (v : Int), RelA k0 M1 → cch M1 → (∀ x j, dY x j = false → M1 x j = M x j) → bs M M1 → zR v → v = (if 0 ≤ t ∧ t ≤ 1 then (if t = 0 then clF M (M 102 58).toNat else cbF M (M 102 58).toNat) else -1) → zP E mX12_cost [.inr (.inr 102), .inl t] M1 (fun r2 M2 => (zR v ∧ zR r2) ∧ v = r2 ∧ P' M2) := by
    intro M1 v hA1 hc1 f1 b1 zv hv
    refine vcX12_cost _ ?_
    intro M2 h2'
    have f2 : ∀ x j, dV x j = false → M2 x j = M1 x j := by rw [h2']; exact fr_up rfl
    have fin : ∀ M3, (∀ x j, dRf x j = false → M3 x j = M1 x j) → P' M3 := fun M3 f3 => by
      obtain ⟨c1, c2⟩ := Rf_all hA1 hc1 f3
      exact h M3 c1 c2 (fr_t f1 (fr_sub dRf_Y f3))
    refine r_isIn h1 (zRd rfl) (zRd rfl) ?_
    by_cases g1 : 0 ≤ t ∧ t ≤ 1
    · rw [if_pos g1]
      rw [if_pos g1] at hv
      refine ⟨zRd rfl, fun _ => ?_, fun q => absurd q (by decide)⟩
      refine r_allLevels hA1 hc1.1.1 f2 ?_
      intro M3 f3 l3
      refine r_costs hA1 hc1 (V_Rf f3) l3 ?_
      intro M9 f9 _ _ e1 e2
      have ew : M1 102 58 = M 102 58 := b1 _ _ (by decide) rfl
      rw [e1, e2, ew, (bs_cost hA b1 _).1, (bs_cost hA b1 _).2]
      refine ⟨h1, fun q => ?_, fun q => ?_⟩
      · rw [if_neg q] at hv
        rw [← hv]
        exact q_end zv (fin M9 f9)
      · rw [if_pos q] at hv
        rw [← hv]
        exact q_end zv (fin M9 f9)
    · rw [if_neg g1]
      rw [if_neg g1] at hv
      subst hv
      exact ⟨zRd rfl, fun q => absurd rfl q, fun _ => q_end zv (fin M2 (V_Rf f2))⟩
  refine vcX11_cost _ ?_
  refine c_within h1 (zRd rfl) (zRd rfl) ?_
  by_cases g1 : 0 ≤ t ∧ t ≤ 1
  · rw [if_pos g1]
    refine ⟨zRd rfl, fun _ => ?_, fun q => absurd q (by decide)⟩
    refine c_noteWarnings hA hc.1.1 hc.1.2.1 hc.1.2.2 ?_
    intro M1 f1 t1 k1 r1 n1 w1
    obtain ⟨hA1, hc1⟩ := W_all hA hc f1 t1 k1 r1 w1
    have b1 := bs_hi (W_hi f1)
    have ew : M1 102 58 = M 102 58 := b1 _ _ (by decide) rfl
    refine ⟨h1, fun q => ?_, fun q => ?_⟩
    · refine c_buriedCost hA1 hc1 ?_
      intro M2 f2 hA2 hc2 _
      have b2 := bs_t b1 (K_bs f2)
      rw [ew, (bs_cost hA b1 _).2]
      have cb : ∀ w : Nat, (w : Int) ≤ M 102 58 → 0 ≤ cbF M w ∧ cbF M w ≤ 800000 * w := by
        intro w hw
        induction w with
        | zero => exact ⟨Int.le_refl _, Int.le_refl _⟩
        | succ w ih =>
          have ih := ih (by omega)
          have br := br_r (w := w) hA
          obtain ⟨-, -, -, -, -, -, -, -, ⟨-, -, -, wb⟩, -⟩ := id hA
          have wt := (wb w (by omega)).2.2.2.2
          have m2 := mul_r (a := M 136 w) (b := brF M w) (n := 99) (m := 6400) (by omega) (by omega) (by omega)
          have u2 : cbF M (w + 1) = cbF M w + M 136 w * brF M w := rfl
          rw [u2]
          omega
      have := cb (M 102 58).toNat (by omega)
      refine ref M2 _ hA2 hc2 (fr_t (fr_sub dW_Y f1) (fr_sub dK_Y f2)) b2 (by unfold zR; omega) ?_
      rw [if_pos g1, if_neg q]
    · refine c_lostCost hA1 hc1 n1 ?_
      intro M2 f2 hA2 hc2 ok2
      have b2 := bs_t b1 (K_bs f2)
      rw [ew, (bs_cost hA b1 _).1]
      have := (cost_r hA (fun w hw => by
        have o := (ok2 w (by rw [ew]; exact hw)).2.2.1
        rw [(bs_net hA b2 w).2, b2 102 69 (by decide) rfl, bs_ap b2] at o
        exact o) (M 102 58).toNat (by omega)).1
      refine ref M2 _ hA2 hc2 (fr_t (fr_sub dW_Y f1) (fr_sub dK_Y f2)) b2 (by unfold zR; omega) ?_
      rw [if_pos g1, if_pos q]
  · rw [if_neg g1]
    exact ⟨zRd rfl, fun q => absurd rfl q, fun _ => ref M _ hA hc (fun _ _ _ => rfl) (bs_r M) (zRd rfl) (by rw [if_neg g1])⟩
set_option maxHeartbeats 4000000 in
theorem q_cut {E : zE} {k0 : Nat} {M : zM} {P' : zM → Prop} {a p hr : Int} (hA : RelA k0 M) (hc : cch M) (h1 : zR a) (h2 : zR p) (h3 : zR hr)
    (h : ∀ M' : zM, RelA k0 M' → cch M' → (∀ x j, dY x j = false → M' x j = M x j) → P' M') : zPP E mX11_cut mX12_cut [.inl a, .inl p, .inl hr] M P' := by
  obtain ⟨-, -, -, -, -, -, -, -, ⟨wc, wr, wwf, wb⟩, ⟨p1, p2, -⟩, -⟩ := id hA
  have ref : ∀ (M1 : zM) (v : Int), RelA k0 M1 → cch M1 → (∀ x j, dY x j = false → M1 x j = M x j) → bs M M1 → (v = -1 ∨ v = 0 ∨ v = 1) → ((0 ≤ a ∧ a < M 102 58) → (0 ≤ p ∧ p < M 102 69) → (bgn M a.toNat ≤ hr ∧ hr ≤ fns M a.toNat) → (v = 1 ∧ inS (ntF M a.toNat) (25 * p + hr - bgn M a.toNat).toNat) ∨ (v = 0 ∧ ¬ inS (ntF M a.toNat) (25 * p + hr - bgn M a.toNat).toNat)) → (¬ ((0 ≤ a ∧ a < M 102 58) ∧ (0 ≤ p ∧ p < M 102 69) ∧ (bgn M a.toNat ≤ hr ∧ hr ≤ fns M a.toNat)) → v = -1) → zP E mX12_cut [.inr (.inr 102), .inl a, .inl p, .inl hr] M1 (fun r2 M2 => (zR v ∧ zR r2) ∧ v = r2 ∧ P' M2) := by
    intro M1 v hA1 hc1 f1 b1 v3 hv1 hv0
    have zv : zR v := by rcases v3 with q | q | q <;> rw [q] <;> exact zRd rfl
    refine vcX12_cut _ _ _ ?_
    intro M2 h2'
    have f2 : ∀ x j, dV x j = false → M2 x j = M1 x j := by rw [h2']; exact fr_up rfl
    have fin : ∀ M3, (∀ x j, dRf x j = false → M3 x j = M1 x j) → P' M3 := fun M3 f3 => by
      obtain ⟨c1, c2⟩ := Rf_all hA1 hc1 f3
      exact h M3 c1 c2 (fr_t f1 (fr_sub dRf_Y f3))
    have no : ∀ M3, (∀ x j, dRf x j = false → M3 x j = M1 x j) → ¬ ((0 ≤ a ∧ a < M 102 58) ∧ (0 ≤ p ∧ p < M 102 69) ∧ (bgn M a.toNat ≤ hr ∧ hr ≤ fns M a.toNat)) → (zR v ∧ zR (-1)) ∧ v = -1 ∧ P' M3 := fun M3 f3 q => ⟨⟨zv, zRd rfl⟩, hv0 q, fin M3 f3⟩
    have ew : M2 102 58 = M 102 58 := by rw [f2 102 58 rfl]; exact b1 _ _ (by decide) rfl
    have ep : M2 102 69 = M 102 69 := by rw [f2 102 69 rfl]; exact b1 _ _ (by decide) rfl
    refine r_isWorld h1 (by rw [ew]; exact wr) ?_
    rw [ew]
    by_cases g1 : 0 ≤ a ∧ a < M 102 58
    · rw [if_pos g1]
      refine ⟨zRd rfl, fun q => absurd q (by decide), fun _ => ?_⟩
      refine r_isPlace h2 (by rw [ep]; exact p2) ?_
      rw [ep]
      by_cases g2 : 0 ≤ p ∧ p < M 102 69
      · rw [if_pos g2]
        refine ⟨zRd rfl, fun _ => ?_, fun q => absurd q (by decide)⟩
        refine r_allLevels hA1 hc1.1.1 f2 ?_
        intro M3 f3 l3
        obtain ⟨w, hw⟩ : ∃ w : Nat, a = (w : Int) := ⟨a.toNat, by omega⟩
        subst hw
        rw [Int.toNat_natCast] at hv1 hv0 no
        have hw1 : (w : Int) < M1 102 58 := by rw [b1 _ _ (by decide) rfl]; exact g1.2
        refine r_leadL hA1 hc1.1 (V_Rf f3) l3 hw1 ?_
        intro M9 f9 e1 e2 e3 e4 e5
        have fr9 : ∀ x j, dRf x j = false → M9 x j = M1 x j := fr_t (V_Rf f3) (fr_sub dLd_Rf f9)
        have eb : bgn M1 w = bgn M w := by unfold bgn; rw [b1 132 w (by decide) rfl]
        have ef : fns M1 w = fns M w := by unfold fns; rw [b1 132 w (by decide) rfl]
        have bf := bf_r (wb w g1.2).1
        rw [e1, e2, eb, ef]
        refine ⟨⟨h3, by unfold zR; omega⟩, fun q => no M9 fr9 (fun q2 => by omega), fun q => ⟨⟨h3, by unfold zR; omega⟩, fun q2 => ?_, fun q2 => no M9 fr9 (fun q3 => by omega)⟩⟩
        refine vcX12_nodeOf _ _ ?_
        rw [e1, eb]
        obtain ⟨c1, c2⟩ := e5 (25 * p + hr - bgn M w).toNat (by omega)
        rw [(bs_net hA b1 w).1] at c2
        refine ⟨by omega, c1, fun q3 => ?_, fun q3 => ?_⟩
        · rcases hv1 g1 g2 ⟨q, q2⟩ with ⟨x1, x2⟩ | ⟨x1, x2⟩
          · exact ⟨⟨zv, zRd rfl⟩, x1, fin M9 fr9⟩
          · exact absurd (c2.mp q3) x2
        · rcases hv1 g1 g2 ⟨q, q2⟩ with ⟨x1, x2⟩ | ⟨x1, x2⟩
          · exact absurd q3 (c2.mpr x2)
          · exact ⟨⟨zv, zRd rfl⟩, x1, fin M9 fr9⟩
      · rw [if_neg g2]
        exact ⟨zRd rfl, fun q => absurd rfl q, fun _ => no M2 (V_Rf f2) (fun q => g2 q.2.1)⟩
    · rw [if_neg g1]
      exact ⟨zRd rfl, fun _ => no M2 (V_Rf f2) (fun q => g1 q.1), fun q => absurd rfl q⟩
  have refN : ¬ ((0 ≤ a ∧ a < M 102 58) ∧ (0 ≤ p ∧ p < M 102 69) ∧ (bgn M a.toNat ≤ hr ∧ hr ≤ fns M a.toNat)) → zP E mX12_cut [.inr (.inr 102), .inl a, .inl p, .inl hr] M (fun r2 M2 => (zR (-1) ∧ zR r2) ∧ -1 = r2 ∧ P' M2) := fun q => ref M (-1) hA hc (fun _ _ _ => rfl) (bs_r M) (Or.inl rfl) (fun q1 q2 q3 => absurd ⟨q1, q2, q3⟩ q) (fun _ => rfl)
  refine vcX11_cut _ _ _ ?_
  refine c_isWorld h1 (by rw [wc]; exact wr) ?_
  rw [wc]
  by_cases g1 : 0 ≤ a ∧ a < M 102 58
  · rw [if_pos g1]
    refine ⟨zRd rfl, fun q => absurd q (by decide), fun _ => ?_⟩
    refine c_phas h2 (by rw [p1]; exact p2) ?_
    rw [p1]
    by_cases g2 : 0 ≤ p ∧ p < M 102 69
    · rw [if_pos g2]
      refine ⟨zRd rfl, fun _ => ?_, fun q => absurd q (by decide)⟩
      obtain ⟨w, hw⟩ : ∃ w : Nat, a = (w : Int) := ⟨a.toNat, by omega⟩
      subst hw
      rw [Int.toNat_natCast] at ref refN
      have w3 : w < 3 := by omega
      have hF3 : zIs_0 (fid w : Int) := by
        rcases fid3 w3 with ⟨-, e⟩ | ⟨-, e⟩ | ⟨-, e⟩ <;> rw [e] <;> unfold zIs_0 <;> simp
      have hWl : M 33 w = (wid w : Int) := by
        obtain ⟨⟨a0, a1, a2⟩, -⟩ := hA.1
        have : w = 0 ∨ w = 1 ∨ w = 2 := by omega
        rcases this with rfl | rfl | rfl
        · exact a0
        · exact a1
        · exact a2
      have sr := (wb w g1.2).1
      have bf := bf_r sr
      have bd : (if M 132 w < 12 then 0 else M 132 w - 12) = bgn M w := rfl
      have fd : M 132 w + 12 = fns M w := rfl
      rw [Int.toNat_natCast, hWl]
      refine ⟨by omega, (wid3 w3).1, ?_⟩
      refine c_firstHour (s := M 132 w) w3 (wwf w w3).1 sr ?_
      rw [bd]
      refine c_lastHour (s := M 132 w) w3 (wwf w w3).1 ?_
      rw [fd]
      refine c_within h3 (by unfold zR; omega) (by unfold zR; omega) ?_
      by_cases g3 : bgn M w ≤ hr ∧ hr ≤ fns M w
      · rw [if_pos g3]
        refine ⟨zRd rfl, fun _ => ?_, fun q => absurd q (by decide)⟩
        refine c_noteWarnings hA hc.1.1 hc.1.2.1 hc.1.2.2 ?_
        intro M1 f1 t1 k1 r1 n1 w1
        obtain ⟨hA1, hc1⟩ := W_all hA hc f1 t1 k1 r1 w1
        have b1 := bs_hi (W_hi f1)
        refine c_led hA1 hc1.2.1 hc1.2.2 n1 w1 (by rw [b1 _ _ (by decide) rfl]; exact g1.2) ?_
        intro M2 f2 s2 l2 ld2 ok2 _
        have hA2 := K_rel hA1 f2
        have hc2 : cch M2 := ⟨K_cch hA1 f2 hc1.1, s2, l2⟩
        have b2 := bs_t b1 (K_bs f2)
        have fY := fr_t (fr_sub dW_Y f1) (fr_sub dK_Y f2)
        refine ⟨hF3, ?_⟩
        have ws2 : M2 (wid w) 0 = M 132 w := by
          obtain ⟨-, -, -, -, -, -, -, -, ⟨-, -, wwf2, -⟩, -⟩ := hA2
          rw [(wwf2 w w3).1]
          exact b2 _ _ (by decide) rfl
        refine c_firstHour (s := M 132 w) w3 ws2 sr ?_
        rw [bd]
        refine vcX2_node _ _ ?_
        have ix : (p * 25 + (hr - bgn M w)).toNat = (25 * p + hr - bgn M w).toNat := by omega
        obtain ⟨-, -, ok3⟩ := ok2
        obtain ⟨o1, o2⟩ := ok3 (25 * p + hr - bgn M w).toNat (by omega)
        rw [(bs_net hA b2 w).1] at o2
        rw [show ((fid w : Int) + 7).toNat = fid w + 7 by omega, ix]
        refine ⟨by omega, ?_⟩
        refine ref M2 _ hA2 hc2 fY b2 (by omega) (fun _ _ _ => ?_) (fun q => absurd ⟨g1, g2, g3⟩ q)
        rcases o1 with q | q
        · refine Or.inr ⟨q, fun q2 => ?_⟩
          have := o2.mpr q2
          omega
        · exact Or.inl ⟨q, o2.mp q⟩
      · rw [if_neg g3]
        exact ⟨zRd rfl, fun q => absurd rfl q, fun _ => refN (fun q => g3 q.2.2)⟩
    · rw [if_neg g2]
      exact ⟨zRd rfl, fun q => absurd rfl q, fun _ => refN (fun q => g2 q.2.1)⟩
  · rw [if_neg g1]
    exact ⟨zRd rfl, fun _ => refN (fun q => g1 q.1), fun q => absurd rfl q⟩
