/-! the class's reader of rules: take() is a step -/
theorem c_judge {E : zE} {M : zM} {Q : Int → zM → Prop} {lo hi : Int} (ht : tkR M) (hl : zR lo) (hh : zR hi) (h : Q (jdg M lo hi) M) : zP E mX7_judgeNumber [.inr (.inr 1), .inl lo, .inl hi] M Q := by
  obtain ⟨t1, t2⟩ := ht
  refine vcX7_judgeNumber _ _ ?_
  unfold jdg at h
  refine ⟨by unfold zR; omega, fun q => ?_, fun q => ?_⟩
  · rw [if_pos q] at h
    have t2 := t2 q
    refine c_within (by unfold zR; omega) hl hh ⟨ite01.1, fun q2 => ?_, fun q2 => ?_⟩
    · rw [if_neg (ite01.2.mp q2)] at h; exact h
    · rw [if_pos (Classical.byContradiction (fun q3 => q2 (ite01.2.mpr q3)))] at h; exact h
  · rw [if_neg q] at h; exact h
theorem tkR_e {M M' : zM} (h : M' 2 = M 2) (ht : tkR M) : tkR M' := by
  unfold tkR at ht ⊢
  rw [h]
  exact ht
theorem jdg_e {M M' : zM} (h : M' 2 = M 2) (lo hi : Int) : jdg M' lo hi = jdg M lo hi := by
  unfold jdg
  rw [h]
theorem c_stpA {E : zE} {M : zM} {Q : Int → zM → Prop} {b : Nat} (hb : zIs_6 (b : Int)) (hp : pInv b M) (hd : 4 ≤ M 1 3) (ht : tkR M) (h : Q (stpA b M).1 (stpA b M).2) : zP E mX7_takeAheadOfOperand [.inr (.inr 1), .inr (.inr (b : Int))] M Q := by
  obtain ⟨bc, e0, -⟩ := bk_c hb
  obtain ⟨t1, t2⟩ := id ht
  obtain ⟨p1, -⟩ := pIn5_w hp hd
  obtain ⟨p3, p4, p5, p6, p7, -, hq⟩ := hp
  obtain ⟨-, p2, p8, p9, p10, -, -⟩ := hq hd
  have kn : ∀ M2 : zM, M2 b = M b → 0 ≤ M2 b 9 ∧ M2 b 9 ≤ 64 := fun M2 e => by rw [e]; exact p5
  have awb : ∀ (M2 : zM) (t : Int), M2 b = M b → awM M2 t b = M b := fun M2 t e => by
    unfold awM
    split
    · rw [zup_ne _ _ _ (by omega), zup_ne _ _ _ (by omega)]; exact e
    · exact e
  have neg : ∀ h4 : M 2 4 ≠ 18 ∧ M 2 4 ≠ 16 ∧ ¬ (5 ≤ M 2 4 ∧ M 2 4 ≤ 11), ((zR (M 2 4)) ∧ ((¬ (M 2 4) = 22 → ((zR (M 2 4)) ∧ ((¬ (M 2 4) = 4 → Q 1 M) ∧ ((M 2 4) = 4 → ((zR (M 1 10)) ∧ (((M 1 10) = 0 → Q 1 M) ∧ (¬ (M 1 10) = 0 → (zP E mX7_await [.inr (.inr 1), .inl 4] M (fun _ M2 => (zP E mX7_countKnot [.inr (.inr 1), .inr (.inr (b : Int))] M2 (fun r3 M4 => Q r3 M4))))))))))) ∧ ((M 2 4) = 22 → (∀ M5, M5 = zup M 1 10 0 → (zP E mX7_await [.inr (.inr 1), .inl 31] M5 (fun _ M7 => (zP E mX7_countKnot [.inr (.inr 1), .inr (.inr (b : Int))] M7 (fun r8 M9 => Q r8 M9)))))))) := fun h4 => by
    unfold stpA at h
    rw [if_neg h4.1, if_neg h4.2.1, if_neg h4.2.2] at h
    refine ⟨by unfold zR; omega, fun q => ?_, fun q M5 h5 => ?_⟩
    · rw [if_neg q] at h
      refine ⟨by unfold zR; omega, fun q2 => ?_, fun q2 => ⟨by rcases p8 with q3 | q3 <;> rw [q3] <;> exact zRd rfl, fun q3 => ?_, fun q3 => ?_⟩⟩
      · rw [if_neg (fun q3 => q2 q3.1)] at h; exact h
      · rw [if_neg (fun q4 => q4.2 q3)] at h; exact h
      · rw [if_pos ⟨q2, q3⟩] at h
        refine c_await p1 ?_
        exact c_countKnot hb (kn _ (awb _ _ rfl)) h
    · rw [if_pos q] at h
      rw [h5]
      have s5 : zup M 1 10 0 b = M b := zup_ne _ _ _ (by omega)
      refine c_await (by rw [zup_q, if_neg (by decide)]; exact p1) ?_
      exact c_countKnot hb (kn _ (awb _ _ s5)) h
  refine vcX7_takeAheadOfOperand _ hb ?_
  refine ⟨by unfold zR; omega, fun q => ⟨by unfold zR; omega, fun q2 => ⟨by unfold zR; omega, fun q3 => neg ⟨q, q2, by omega⟩, fun q3 => ⟨by unfold zR; omega, fun q4 => neg ⟨q, q2, by omega⟩, fun q4 M19 h19 M20 h20 => ?_⟩⟩, fun q2 => ?_⟩, fun q => ?_⟩
  · unfold stpA at h
    rw [if_neg q, if_neg q2, if_pos ⟨q3, q4⟩] at h
    rw [h20, h19]
    exact c_countKnot hb (kn _ (by rw [zup_ne _ _ _ (by omega), zup_ne _ _ _ (by omega)])) h
  · unfold stpA at h
    rw [if_neg q, if_pos q2] at h
    refine vcX7_takePlainNumber _ hb ?_
    refine c_write hb p3 ?_
    intro M3 h3
    have wt1 : wrM M b 16 0 (M 2 6) 2 = M 2 := by
      unfold wrM
      split
      · rw [zup_ne _ _ _ (by omega), zup_ne _ _ _ (by omega), zup_ne _ _ _ (by omega), zup_ne _ _ _ (by omega)]
      · rfl
    have wt2 : wrM M b 16 0 (M 2 6) b 9 = M b 9 := by
      unfold wrM
      split
      · rw [zup_q, if_neg (fun q5 => absurd q5.2 (by decide)), zup_ne _ _ _ (by omega), zup_ne _ _ _ (by omega), zup_ne _ _ _ (by omega)]
      · rfl
    have e3 : M3 2 6 = M 2 6 := by rw [h3, zup_ne _ _ _ (by decide), wt1]
    have k3 : M3 b 9 = M b 9 := by rw [h3, zup_ne _ _ _ (by omega), wt2]
    rw [e3]
    have t2 := t2 q2
    refine ⟨by unfold zR; omega, fun q3 => ?_, fun q3 => ?_⟩
    · rw [if_neg (by omega)] at h
      rw [h3]
      exact c_countKnot hb (by rw [← h3, k3]; exact p5) h
    · rw [if_pos q3] at h
      rw [h3]
      exact h
  · unfold stpA at h
    rw [if_pos q] at h
    refine vcX7_takeOpen ?_
    refine ⟨by unfold zR; omega, fun q2 M1 h1 => ?_, fun q2 => ?_⟩
    · rw [if_pos q2] at h
      have o1 : M1 1 8 = M 1 8 + 1 := by rw [h1, zup_q, if_pos ⟨rfl, rfl⟩]
      rw [o1]
      refine ⟨by omega, fun M2 h2 M3 h3 => ?_⟩
      rw [h3, h2, h1]
      refine c_await ?_ h
      rw [zup_q, if_neg (by decide), zup_q, if_neg (fun q5 => absurd q5.1 (by decide)), zup_q, if_neg (by decide)]
      exact p1
    · rw [if_neg (by omega)] at h
      exact h
/-- what writing and settling leave -/
theorem wrM_n {M : zM} {b : Nat} {op kd nm : Int} {x : Nat} (h : x < b ∨ b + 3 < x) : wrM M b op kd nm x = M x := by
  unfold wrM
  split
  · rw [zup_ne _ _ _ (by omega), zup_ne _ _ _ (by omega), zup_ne _ _ _ (by omega), zup_ne _ _ _ (by omega)]
  · rfl
theorem wrM_b {M : zM} {b : Nat} {op kd nm : Int} {j : Nat} (h : j ≠ 7) : wrM M b op kd nm b j = M b j := by
  unfold wrM
  split
  · rw [zup_q, if_neg (fun q5 => h q5.2), zup_ne _ _ _ (by omega), zup_ne _ _ _ (by omega), zup_ne _ _ _ (by omega)]
  · rfl
theorem wrM_s {M : zM} {b : Nat} {op kd nm : Int} (h : 0 ≤ M b 7 ∧ M b 7 ≤ 64) : 0 ≤ wrM M b op kd nm b 7 ∧ wrM M b op kd nm b 7 ≤ 64 := by
  unfold wrM
  split
  · rw [zup_q, if_pos ⟨rfl, rfl⟩]
    omega
  · exact h
/-- what settling may change -/
theorem stl_n {b : Nat} (hb : b = 6 ∨ b = 13) {least : Int} (k : Nat) (M : zM) : (∀ x, x ≠ 1 → (x < b ∨ b + 3 < x) → stlM b least k M x = M x) ∧ (∀ j, j ≠ 7 → stlM b least k M 1 j = M 1 j) ∧ (∀ j, j ≠ 7 → stlM b least k M b j = M b j) ∧ ((0 ≤ M b 7 ∧ M b 7 ≤ 64) → 0 ≤ stlM b least k M b 7 ∧ stlM b least k M b 7 ≤ 64) ∧ ((0 ≤ M 1 7 ∧ M 1 7 ≤ 72) → 0 ≤ stlM b least k M 1 7 ∧ stlM b least k M 1 7 ≤ M 1 7) := by
  induction k generalizing M with
  | zero => exact ⟨fun _ _ _ => rfl, fun _ _ => rfl, fun _ _ => rfl, fun h => h, fun h => ⟨h.1, Int.le_refl _⟩⟩
  | succ k ih =>
    unfold stlM
    by_cases q : 0 < M 1 7 ∧ least ≤ stre (M 4 (M 1 7 - 1).toNat)
    · rw [if_pos q]
      obtain ⟨i1, i2, i3, i4, i5⟩ := ih (wrM (zup M 1 7 (M 1 7 - 1)) b (M 4 (M 1 7 - 1).toNat) 0 0)
      have wc : wrM (zup M 1 7 (M 1 7 - 1)) b (M 4 (M 1 7 - 1).toNat) 0 0 1 7 = M 1 7 - 1 := by
        rw [wrM_n (by omega), zup_q, if_pos ⟨rfl, rfl⟩]
      refine ⟨fun x x1 x2 => ?_, fun j hj => ?_, fun j hj => ?_, fun hs => i4 (wrM_s ?_), fun hw => ?_⟩
      · rw [i1 x x1 x2, wrM_n x2, zup_ne _ _ _ x1]
      · rw [i2 j hj, wrM_n (by omega), zup_q, if_neg (fun q2 => hj q2.2)]
      · rw [i3 j hj, wrM_b hj, zup_ne _ _ _ (by omega)]
      · rw [zup_ne _ _ _ (by omega)]; exact hs
      · rw [wc] at i5
        have := i5 (by omega)
        omega
    · rw [if_neg q]
      exact ⟨fun _ _ _ => rfl, fun _ _ => rfl, fun _ _ => rfl, fun h => h, fun h => ⟨h.1, Int.le_refl _⟩⟩
theorem stre_r (t : Int) : 0 ≤ stre t ∧ stre t ≤ 7 := by
  unfold stre
  repeat' split
  all_goals omega
set_option maxHeartbeats 4000000 in
theorem c_sign {E : zE} {M : zM} {Q : Int → zM → Prop} {b : Nat} (hb : zIs_6 (b : Int)) (hp : pInv b M) (hd : 4 ≤ M 1 3) (ht : tkR M) (h : Q (if sgBad M then (1, M) else (ckF (sgM b M) b, ckM (sgM b M) b) : Int × zM).1 (if sgBad M then (1, M) else (ckF (sgM b M) b, ckM (sgM b M) b) : Int × zM).2) : zP E mX7_takeSign [.inr (.inr 1), .inr (.inr (b : Int))] M Q := by
  obtain ⟨bc, e0, -⟩ := bk_c hb
  obtain ⟨t1, t2⟩ := id ht
  obtain ⟨p1, -⟩ := pIn5_w hp hd
  obtain ⟨p3, p4, p5, p6, p7, -, hq⟩ := hp
  obtain ⟨-, p2, p8, p9, p10, -, -⟩ := hq hd
  obtain ⟨tk, htk⟩ : ∃ tk, tk = M 2 4 := ⟨_, rfl⟩
  have zt : zR tk := by unfold zR; omega
  have main : ∀ (M0 : zM) (nm : Int), M0 = (if 21 ≤ tk ∧ tk ≤ 24 then M else zup M 5 (M 1 8).toNat (if 25 ≤ tk ∧ tk ≤ 30 then 1 else 0)) → nm = (if tk = 2 ∨ tk = 3 then 1 else 0) → ¬ sgBad M → zP E mX7_strength [.inl tk] M0 (fun r5 M6 => zP E mX7_settle [.inr (.inr 1), .inr (.inr (b : Int)), .inl r5] M6 (fun _ M8 => zP E mX7_await [.inr (.inr 1), .inl tk] M8 (fun _ M10 => ∀ M11, M11 = zup M10 1 10 nm → ∀ M12, M12 = zup M11 1 3 4 → zP E mX7_countKnot [.inr (.inr 1), .inr (.inr (b : Int))] M12 (fun r13 M14 => Q r13 M14)))) := by
    intro M0 nm hM0 hnm hbad
    rw [if_neg hbad] at h
    have n0 : ∀ x, x ≠ 5 → M0 x = M x := fun x hx => by
      rw [hM0]
      split
      · rfl
      · rw [zup_ne _ _ _ hx]
    have sr := stre_r tk
    refine c_strength zt ?_
    refine c_settle hb (by unfold zR; omega) (by rw [n0 _ (by decide)]; exact p1) (by rw [n0 b (by omega)]; exact p3) (fun i hi => by rw [n0 _ (by decide)]; exact p10 i (by rw [n0 1 (by decide)] at hi; exact hi)) ?_
    obtain ⟨i1, i2, i3, i4, i5⟩ := stl_n bc (least := stre tk) (M0 1 7).toNat M0
    have eW : M0 1 7 = M 1 7 := by rw [n0 _ (by decide)]
    refine c_await (by have := i5 (by rw [eW]; exact p1); omega) ?_
    intro M11 h11 M12 h12
    have eM : M12 = sgM b M := by
      rw [h12, h11, hnm]
      unfold sgM
      rw [← htk, ← hM0, n0 1 (by decide)]
    rw [eM]
    refine c_countKnot hb ?_ h
    rw [← eM, h12, zup_ne _ _ _ (by omega), h11, zup_ne _ _ _ (by omega)]
    have ea : ∀ (M2 : zM) (t : Int), awM M2 t b = M2 b := fun M2 t => by
      unfold awM
      split
      · rw [zup_ne _ _ _ (by omega), zup_ne _ _ _ (by omega)]
      · rfl
    rw [ea, i3 _ (by decide), n0 b (by omega)]
    exact p5
  have c01 : ∀ {P : Prop} [Decidable P], (if P then (1 : Int) else 0) = 0 ∨ (if P then (1 : Int) else 0) = 1 := fun {P} _ => by
    split
    · exact Or.inr rfl
    · exact Or.inl rfl
  refine vcX7_takeSign _ hb ?_
  rw [← htk]
  have notbad : ∀ q : tk = 2 ∨ tk = 3, ¬ sgBad M := fun q q2 => q2.1 (by rw [← htk]; exact q)
  refine ⟨zt, fun q => ?_, fun q => ⟨zt, fun q2 => ?_, fun q2 => ?_⟩⟩
  · refine c_within zt (zRd rfl) (zRd rfl) (c_within zt (zRd rfl) (zRd rfl) ?_)
    rw [if_neg (show ¬ (25 ≤ tk ∧ tk ≤ 30) by omega), if_neg (show ¬ (21 ≤ tk ∧ tk ≤ 24) by omega)]
    refine ⟨zRd rfl, fun q3 => absurd rfl q3, fun _ => ⟨by omega, fun M15 h15 => ?_⟩⟩
    exact main M15 1 (by rw [h15, if_neg (by omega), if_neg (by omega)]) (by rw [if_pos (Or.inl q)]) (notbad (Or.inl q))
  · refine c_within zt (zRd rfl) (zRd rfl) (c_within zt (zRd rfl) (zRd rfl) ?_)
    have nm0 : (0 : Int) = (if tk = 2 ∨ tk = 3 then 1 else 0) := by rw [if_neg (by omega)]
    by_cases g : 21 ≤ tk ∧ tk ≤ 24
    · rw [if_pos g]
      have nb : ¬ sgBad M := fun q3 => q3.2.1 (by rw [← htk]; exact g)
      exact ⟨zRd rfl, fun _ => ⟨zRd rfl, fun _ => main M 0 (by rw [if_pos g]) nm0 nb, fun q3 => absurd q3 (by decide)⟩, fun q3 => absurd q3 (by decide)⟩
    · rw [if_neg g]
      refine ⟨zRd rfl, fun q3 => absurd rfl q3, fun _ => ?_⟩
      by_cases g2 : 25 ≤ tk ∧ tk ≤ 30
      · rw [if_pos g2]
        refine ⟨zRd rfl, fun q3 => absurd q3 (by decide), fun _ => ⟨by omega, by rcases p9 (M 1 8).toNat (by omega) with q3 | q3 <;> rw [q3] <;> exact zRd rfl, fun q3 => ?_, fun q3 => ?_⟩⟩
        · have nb : ¬ sgBad M := fun q4 => by
            rcases q4.2.2 with q5 | q5
            · exact q5 (by rw [← htk]; exact g2)
            · exact q5 q3
          refine ⟨zRd rfl, fun q4 => absurd rfl q4, fun _ => ⟨by omega, fun M61 h61 => ?_⟩⟩
          exact main M61 0 (by rw [h61, if_neg g, if_pos g2]) nm0 nb
        · rw [if_pos (show sgBad M from ⟨by rw [← htk]; omega, by rw [← htk]; exact g, Or.inr q3⟩)] at h
          exact h
      · rw [if_neg g2]
        refine ⟨zRd rfl, fun _ => ?_, fun q3 => absurd rfl q3⟩
        rw [if_pos (show sgBad M from ⟨by rw [← htk]; omega, by rw [← htk]; exact g, Or.inl (by rw [← htk]; exact g2)⟩)] at h
        exact h
  · refine c_within zt (zRd rfl) (zRd rfl) (c_within zt (zRd rfl) (zRd rfl) ?_)
    rw [if_neg (show ¬ (25 ≤ tk ∧ tk ≤ 30) by omega), if_neg (show ¬ (21 ≤ tk ∧ tk ≤ 24) by omega)]
    refine ⟨zRd rfl, fun q3 => absurd rfl q3, fun _ => ⟨by omega, fun M15 h15 => ?_⟩⟩
    exact main M15 1 (by rw [h15, if_neg (by omega), if_neg (by omega)]) (by rw [if_pos (Or.inr q2)]) (notbad (Or.inr q2))
