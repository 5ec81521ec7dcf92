/-! the class's reader of rules: take() -/
set_option maxHeartbeats 4000000 in
theorem c_stpB {E : zE} {M : zM} {Q : Int → zM → Prop} {b : Nat} (hb : zIs_6 (b : Int)) (hp : pInv b M) (hd : 4 ≤ M 1 3) (ht : tkR M) (h : Q (stpB b M).1 (stpB b M).2) : zP E mX7_takeBehindOperand [.inr (.inr 1), .inr (.inr (b : Int))] M Q := by
  obtain ⟨bc, e0, -⟩ := bk_c hb
  obtain ⟨t1, t2⟩ := id ht
  obtain ⟨p1, -⟩ := pIn5_w hp hd
  obtain ⟨p3, p4, p5, p6, p7, -, hq⟩ := id hp
  obtain ⟨-, p2, p8, p9, p10, -, -⟩ := hq hd
  obtain ⟨tk, htk⟩ : ∃ tk, tk = M 2 4 := ⟨_, rfl⟩
  have zt : zR tk := by unfold zR; omega
  have zo : zR (M 1 8) := by unfold zR; omega
  obtain ⟨i1, i2, i3, i4, i5⟩ := stl_n bc (least := 1) (M 1 7).toNat M
  have sign : ¬ (tk = 17 ∧ M 1 8 = 0) → ¬ (tk = 19 ∧ 0 < M 1 8) → zP E mX7_takeSign [.inr (.inr 1), .inr (.inr (b : Int))] M (fun r M2 => Q r M2) := fun q1 q2 => by
    unfold stpB at h
    rw [if_neg (by rw [← htk]; exact q1), if_neg (by rw [← htk]; exact q2)] at h
    exact c_sign hb hp hd ht h
  have close : tk = 19 → 0 < M 1 8 → zP E mX7_settle [.inr (.inr 1), .inr (.inr (b : Int)), .inl 1] M (fun _ M6 => ∀ M7, M7 = zup M6 1 7 ((M6 1 7) - 1) → ∀ M8, M8 = zup M7 1 8 ((M7 1 8) - 1) → Q 0 M8) := fun q1 q2 => by
    unfold stpB at h
    rw [if_neg (by rw [← htk]; omega), if_pos (by rw [← htk]; exact ⟨q1, q2⟩)] at h
    refine c_settle hb (zRd rfl) p1 p3 p10 ?_
    intro M7 h7 M8 h8
    rw [h8, h7, zup_q, if_neg (by decide)]
    exact h
  refine vcX7_takeBehindOperand _ hb ?_
  rw [← htk]
  refine ⟨zt, fun q => ⟨zt, fun q2 => sign (by omega) (by omega), fun q2 => ⟨zo, fun q3 => sign (by omega) (by omega), fun q3 => close q2 q3⟩⟩, fun q => ⟨zo, fun q2 => ⟨zt, fun q3 => sign (by omega) (by omega), fun q3 => absurd q3 (by omega)⟩, fun q2 => ?_⟩⟩
  unfold stpB at h
  rw [if_pos (by rw [← htk]; exact ⟨q, q2⟩)] at h
  refine c_settle hb (zRd rfl) p1 p3 p10 ?_
  refine c_endLine hb (by rw [i3 _ (by decide)]; exact p4) ?_
  intro M21 h21 M22 h22
  rw [h22, h21]
  exact h
theorem c_stpW {E : zE} {M : zM} {Q : Int → zM → Prop} {b : Nat} (hb : zIs_6 (b : Int)) (hp : pInv b M) (hd : 4 ≤ M 1 3) (ht : tkR M) (h : Q (stpW b M).1 (stpW b M).2) : zP E mX7_takeOfWindow [.inr (.inr 1), .inr (.inr (b : Int))] M Q := by
  obtain ⟨bc, e0, -⟩ := bk_c hb
  obtain ⟨t1, t2⟩ := id ht
  obtain ⟨p1, -⟩ := pIn5_w hp hd
  obtain ⟨p3, p4, p5, p6, p7, -, hq⟩ := id hp
  obtain ⟨-, p2, p8, p9, p10, -, -⟩ := hq hd
  have zt : zR (M 2 4) := by unfold zR; omega
  refine vcX7_takeOfWindow _ hb ?_
  unfold stpW at h
  refine ⟨by unfold zR; omega, fun q M1 h1 => ⟨zt, fun q2 => ?_, fun q2 => ?_⟩, fun q M1 h1 => ⟨zt, fun q2 => ?_, fun q2 => ?_⟩, fun q M3 h3 M4 h4 => ?_, fun q M1 h1 => ⟨zt, fun q2 => ?_, fun q2 => ?_⟩, fun q M8 h8 => ?_⟩
  · rw [if_neg (by omega), if_neg (by omega), if_neg (by omega), if_neg (by omega), if_neg q2] at h
    rw [h1]; exact h
  · rw [if_neg (by omega), if_neg (by omega), if_neg (by omega), if_neg (by omega), if_pos q2] at h
    rw [h1]; exact h
  · rw [if_pos q, if_pos q2] at h
    have o1 : M1 1 8 = M 1 8 := by rw [h1, zup_q, if_neg (by decide)]
    rw [o1]
    refine ⟨by unfold zR; omega, fun q3 => ?_, fun q3 => ?_⟩
    · rw [if_pos q3] at h; rw [h1]; exact h
    · rw [if_neg (by omega)] at h; rw [h1]; exact h
  · rw [if_pos q, if_neg q2] at h
    rw [h1]; exact h
  · rw [if_neg (by omega), if_pos q] at h
    refine c_within zt (zRd rfl) (zRd rfl) ⟨ite01.1, fun q2 => ?_, fun q2 => ?_⟩
    · rw [if_neg (ite01.2.mp q2)] at h; rw [h4, h3]; exact h
    · rw [if_pos (Classical.byContradiction (fun q3 => q2 (ite01.2.mpr q3)))] at h; rw [h4, h3]; exact h
  · rw [if_neg (by omega), if_neg (by omega), if_pos q, if_neg q2] at h
    rw [h1]; exact h
  · rw [if_neg (by omega), if_neg (by omega), if_pos q, if_pos q2] at h
    rw [h1]; exact h
  · rw [if_neg (by omega), if_neg (by omega), if_neg (by omega), if_pos q] at h
    have n8 : ∀ j, j ≠ 3 → M8 1 j = M 1 j := fun j hj => by rw [h8, zup_q, if_neg (fun q2 => hj q2.2)]
    have t8 : M8 2 = M 2 := by rw [h8, zup_ne _ _ _ (by decide)]
    rw [n8 _ (by decide), n8 _ (by decide), t8]
    refine c_write hb (by rw [h8, zup_ne _ _ _ (by omega)]; exact p3) ?_
    have te : wrM M8 b (M 1 11) (M 1 12) (M 2 6) 2 = M 2 := by rw [wrM_n (by omega), t8]
    refine c_judge (tkR_e te ht) (zRd rfl) (zRd rfl) ?_
    rw [jdg_e te, h8]
    exact h
set_option maxHeartbeats 4000000 in
theorem c_takeS {E : zE} {M : zM} {Q : Int → zM → Prop} {b : Nat} (hb : zIs_6 (b : Int)) (hp : pInv b M) (ht : tkR M) (h : Q (stpM b M).1 (stpM b M).2) : zP E mX7_take [.inr (.inr 1), .inr (.inr (b : Int))] M Q := by
  obtain ⟨bc, e0, -⟩ := bk_c hb
  obtain ⟨t1, t2⟩ := id ht
  obtain ⟨p3, p4, p5, p6, p7, -, hq⟩ := id hp
  have zt : zR (M 2 4) := by unfold zR; omega
  refine vcX7_take _ hb ?_
  unfold stpM at h
  refine ⟨by unfold zR; omega, fun q => ?_, fun q => ?_, fun q => ?_, fun q => ?_, fun q => ?_, fun q => ?_, fun q => ?_⟩
  · rw [if_neg (by omega), if_neg (by omega), if_neg (by omega), if_neg (by omega), if_neg (by omega), if_neg (by omega)] at h
    exact c_stpW hb hp (by omega) ht h
  · rw [if_pos q] at h
    refine vcX7_takeLineWord _ hb ?_
    rw [e0]
    refine ⟨zt, fun q2 => ⟨zt, fun q3 => ?_, fun q3 M1 h1 => ?_⟩, fun q2 M2 h2 => ?_⟩
    · rw [if_neg q2, if_neg q3] at h; exact h
    · rw [if_neg q2, if_pos q3] at h
      have s1 : M1 b = M b := by rw [h1, zup_ne _ _ _ (by omega)]
      rw [s1]
      refine ⟨by unfold zR; omega, fun q4 => ?_, fun q4 => ?_⟩
      · rw [if_neg (by omega)] at h; rw [h1]; exact h
      · rw [if_pos q4] at h; rw [h1]; exact h
    · rw [if_pos q2] at h
      have s2 : M2 b = M b := by rw [h2, zup_ne _ _ _ (by omega)]
      rw [s2]
      refine ⟨by rcases p7 with q3 | q3 <;> rw [q3] <;> exact zRd rfl, fun q4 => ?_, fun q4 => ?_⟩
      · rw [if_pos q4] at h; rw [h2]; exact h
      · rw [if_neg q4] at h; rw [h2]; exact h
  · rw [if_neg (by omega), if_pos q] at h
    refine vcX7_takeKeep _ hb ?_
    rw [e0]
    intro M1 h1 M2 h2 M3 h3
    have tt1 : M1 2 = M 2 := by rw [h1, zup_ne _ _ _ (by omega)]
    have tt3 : M3 2 = M 2 := by rw [h3, zup_ne _ _ _ (by decide), h2, zup_ne _ _ _ (by omega), tt1]
    refine c_judge (tkR_e tt3 ht) (zRd rfl) (zRd rfl) ?_
    rw [jdg_e tt3, h3, h2, tt1, h1]
    exact h
  · rw [if_neg (by omega), if_neg (by omega), if_pos q] at h
    refine vcX7_takeKeepEnd ?_
    intro M1 h1 M2 h2
    have tt2 : M2 2 = M 2 := by rw [h2, zup_ne _ _ _ (by decide), h1, zup_ne _ _ _ (by decide)]
    rw [tt2]
    refine ⟨zt, fun q2 => ?_, fun q2 => ?_⟩
    · rw [if_neg q2] at h; rw [h2, h1]; exact h
    · rw [if_pos q2] at h; rw [h2, h1]; exact h
  · rw [if_neg (by omega), if_neg (by omega), if_neg (by omega), if_pos q] at h
    refine vcX7_takeLevel ?_
    intro M1 h1 M2 h2 M3 h3 M4 h4 M5 h5 M6 h6
    have tt6 : M6 2 = M 2 := by rw [h6, zup_ne _ _ _ (by decide), h5, zup_ne _ _ _ (by decide), h4, zup_ne _ _ _ (by decide), h3, zup_ne _ _ _ (by decide), h2, zup_ne _ _ _ (by decide), h1, zup_ne _ _ _ (by decide)]
    refine c_judge (tkR_e tt6 ht) (zRd rfl) (zRd rfl) ?_
    rw [jdg_e tt6, h6, h5, h4, h3, h2, h1]
    exact h
  · rw [if_neg (by omega), if_neg (by omega), if_neg (by omega), if_neg (by omega), if_pos q] at h
    exact c_stpA hb hp (by omega) ht h
  · rw [if_neg (by omega), if_neg (by omega), if_neg (by omega), if_neg (by omega), if_neg (by omega), if_pos q] at h
    exact c_stpB hb hp (by omega) ht h
/-- what steps within a line may change -/
def okD (b : Nat) (d : Nat → Nat → Bool) : Prop := (d 1 3 = true ∧ d 1 5 = true ∧ d 1 7 = true ∧ d 1 8 = true ∧ d 1 10 = true ∧ d 1 11 = true ∧ d 1 12 = true) ∧ (∀ j, d 4 j = true) ∧ (∀ j, d 5 j = true) ∧ (∀ j, d (b + 1) j = true ∧ d (b + 2) j = true ∧ d (b + 3) j = true) ∧ d b 7 = true ∧ d b 9 = true
theorem fz_up {d : Nat → Nat → Bool} {M M0 : zM} {a i : Nat} {v : Int} (hd : d a i = true) (h : ∀ x j, d x j = false → M x j = M0 x j) : ∀ x j, d x j = false → zup M a i v x j = M0 x j := fun x j hx => by
  rw [zup_q]
  by_cases q : x = a ∧ j = i
  · rw [q.1, q.2, hd] at hx
    cases hx
  · rw [if_neg q]
    exact h x j hx
theorem fz_aw {b : Nat} {d : Nat → Nat → Bool} (hD : okD b d) {M M0 : zM} {t : Int} (h : ∀ x j, d x j = false → M x j = M0 x j) : ∀ x j, d x j = false → awM M t x j = M0 x j := by
  unfold awM
  split
  · exact fz_up hD.1.2.2.1 (fz_up (hD.2.1 _) h)
  · exact h
theorem fz_wr {b : Nat} {d : Nat → Nat → Bool} (hD : okD b d) {M M0 : zM} {op kd nm : Int} (h : ∀ x j, d x j = false → M x j = M0 x j) : ∀ x j, d x j = false → wrM M b op kd nm x j = M0 x j := by
  obtain ⟨d1, d2, d3⟩ := hD.2.2.2.1 (M b 7).toNat
  unfold wrM
  split
  · exact fz_up hD.2.2.2.2.1 (fz_up d3 (fz_up d2 (fz_up d1 h)))
  · exact h
theorem fz_ck {b : Nat} {d : Nat → Nat → Bool} (hD : okD b d) {M M0 : zM} (h : ∀ x j, d x j = false → M x j = M0 x j) : ∀ x j, d x j = false → ckM M b x j = M0 x j := fz_up hD.2.2.2.2.2 h
theorem fz_st {b : Nat} {d : Nat → Nat → Bool} (hD : okD b d) {M0 : zM} {least : Int} (k : Nat) (M : zM) (h : ∀ x j, d x j = false → M x j = M0 x j) : ∀ x j, d x j = false → stlM b least k M x j = M0 x j := by
  induction k generalizing M with
  | zero => exact h
  | succ k ih =>
    unfold stlM
    split
    · exact ih _ (fz_wr hD (fz_up hD.1.2.2.1 h))
    · exact h
theorem fz_A {b : Nat} {d : Nat → Nat → Bool} (hD : okD b d) {M : zM} : ∀ x j, d x j = false → (stpA b M).2 x j = M x j := by
  have r : ∀ x j, d x j = false → M x j = M x j := fun _ _ _ => rfl
  obtain ⟨⟨d1, d2, d3, d4, d5, d6, d7⟩, dw, dc, db, ds, dk⟩ := id hD
  unfold stpA
  repeat' split
  · exact fz_aw hD (fz_up d5 (fz_up (dc _) (fz_up d4 r)))
  · exact r
  · exact fz_up d1 (fz_wr hD r)
  · exact fz_ck hD (fz_up d1 (fz_wr hD r))
  · exact fz_ck hD (fz_up d1 (fz_up d6 r))
  · exact fz_ck hD (fz_aw hD (fz_up d5 r))
  · exact fz_ck hD (fz_aw hD r)
  · exact r
theorem fz_W {b : Nat} {d : Nat → Nat → Bool} (hD : okD b d) {M : zM} : ∀ x j, d x j = false → (stpW b M).2 x j = M x j := by
  have r : ∀ x j, d x j = false → M x j = M x j := fun _ _ _ => rfl
  obtain ⟨⟨d1, d2, d3, d4, d5, d6, d7⟩, dw, dc, db, ds, dk⟩ := id hD
  unfold stpW
  split
  · exact fz_up d1 r
  · split
    · exact fz_up d7 (fz_up d1 r)
    · split
      · exact fz_up d1 r
      · split
        · exact fz_wr hD (fz_up d1 r)
        · exact fz_up d1 r
theorem fz_sg {b : Nat} {d : Nat → Nat → Bool} (hD : okD b d) {M : zM} : ∀ x j, d x j = false → ckM (sgM b M) b x j = M x j := by
  have r : ∀ x j, d x j = false → M x j = M x j := fun _ _ _ => rfl
  obtain ⟨⟨d1, d2, d3, d4, d5, d6, d7⟩, dw, dc, db, ds, dk⟩ := id hD
  refine fz_ck hD ?_
  unfold sgM
  refine fz_up d1 (fz_up d5 (fz_aw hD (fz_st hD _ _ ?_)))
  split
  · exact r
  · exact fz_up (dc _) r
/-- what a step may change -/
def dS (b x j : Nat) : Bool := (x == 1 && [3, 4, 5, 7, 8, 10, 11, 12].contains j) || x == 4 || x == 5 || x == b + 1 || x == b + 2 || x == b + 3 || x == b + 4 || x == b + 5 || (x == b && [7, 8, 9, 10, 11].contains j)
theorem dS_b (b : Nat) (j : Nat) : dS b (b + 1) j = true ∧ dS b (b + 2) j = true ∧ dS b (b + 3) j = true ∧ dS b (b + 4) j = true ∧ dS b (b + 5) j = true ∧ dS b b 7 = true ∧ dS b b 8 = true ∧ dS b b 9 = true ∧ dS b b 10 = true ∧ dS b b 11 = true := by
  unfold dS
  refine ⟨?_, ?_, ?_, ?_, ?_, ?_, ?_, ?_, ?_, ?_⟩ <;> simp
theorem dS_ok (b : Nat) : okD b (dS b) := by
  refine ⟨⟨rfl, rfl, rfl, rfl, rfl, rfl, rfl⟩, fun j => ?_, fun j => ?_, fun j => ⟨(dS_b b j).1, (dS_b b j).2.1, (dS_b b j).2.2.1⟩, (dS_b b 0).2.2.2.2.2.1, (dS_b b 0).2.2.2.2.2.2.2.1⟩
  · unfold dS; simp
  · unfold dS; simp
theorem fz_en {b : Nat} {M M0 : zM} {lv : Int} (h : ∀ x j, dS b x j = false → M x j = M0 x j) : ∀ x j, dS b x j = false → enM M b lv x j = M0 x j := by
  obtain ⟨d1, d2, d3, d4, d5, d6, d7, -⟩ := dS_b b (M b 8).toNat
  unfold enM
  split
  · exact fz_up d7 (fz_up d5 (fz_up d4 h))
  · exact h
theorem dS_step {b : Nat} {M : zM} : ∀ x j, dS b x j = false → (stpM b M).2 x j = M x j := by
  have r : ∀ x j, dS b x j = false → M x j = M x j := fun _ _ _ => rfl
  have hD := dS_ok b
  obtain ⟨⟨d1, d2, d3, d4, d5, d6, d7⟩, dw, dc, db, ds, dk⟩ := id hD
  have dl : dS b 1 4 = true := rfl
  obtain ⟨-, -, -, -, -, -, -, -, d9, d10⟩ := dS_b b 0
  unfold stpM
  split
  · split
    · exact fz_up d1 r
    · split
      · exact fz_up d1 r
      · exact r
  · split
    · exact fz_up d1 (fz_up d9 (fz_up d10 r))
    · split
      · exact fz_up d1 (fz_up dl r)
      · split
        · exact fz_up d1 (fz_up d5 (fz_up (dc _) (fz_up d4 (fz_up d3 (fz_up d2 r)))))
        · split
          · exact fz_A hD
          · split
            · unfold stpB
              split
              · exact fz_up d1 (fz_up dl (fz_en (fz_st hD _ _ r)))
              · split
                · exact fz_up d4 (fz_up d3 (fz_st hD _ _ r))
                · split
                  · exact r
                  · exact fz_sg hD
            · exact fz_W hD
