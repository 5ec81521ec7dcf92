/-! the reference's take() -/
def nmq (w v : Int) : Prop := (v ≤ 99999 ∧ w = v) ∨ (99999 < v ∧ 99999 < w ∧ w ≤ 999999)
def sgW (k : Int) : Int := if k = 17 then 59 else if k = 18 then 40 else if k = 19 then 41 else if k = 20 then 44 else if k < 25 then k - 14 else k - 24
/-- the reference's kind and which of a token -/
def tkQ (k v kd w : Int) : Prop := (k = 32 → kd = 0) ∧ ((0 ≤ k ∧ k ≤ 15) → kd = 1 ∧ w = k) ∧ (k = 16 → kd = 2 ∧ nmq w v ∧ 0 ≤ w) ∧ (k = 33 → kd = 4) ∧ ((17 ≤ k ∧ k ≤ 31) → kd = 3 ∧ w = sgW k)
theorem sg_rel (c d : Int) : ((sgK c d = 33 ∧ sgR c d = -1) ∨ ((17 ≤ sgK c d ∧ sgK c d ≤ 30) ∧ sgR c d = sgW (sgK c d) ∧ 1 ≤ sgR c d ∧ sgR c d ≤ 62)) ∧ sgL c d = (if sgR c d = 2 ∨ sgR c d = 4 ∨ sgR c d = 5 then 2 else 1) := by
  unfold sgK sgR sgL sgW
  by_cases c1 : c = 59
  · subst c1; simp
  by_cases c2 : c = 40
  · subst c2; simp
  by_cases c3 : c = 41
  · subst c3; simp
  by_cases c4 : c = 44
  · subst c4; simp
  by_cases c5 : c = 43
  · subst c5; simp
  by_cases c6 : c = 45
  · subst c6; simp
  by_cases c7 : c = 42
  · subst c7; simp
  by_cases c8 : c = 47
  · subst c8; simp
  by_cases c9 : c = 61
  · subst c9; simp
  by_cases c10 : c = 60
  · subst c10
    by_cases d1 : d = 61
    · subst d1; simp
    · by_cases d2 : d = 62
      · subst d2; simp
      · simp [d1, d2]
  by_cases c11 : c = 62
  · subst c11
    by_cases d1 : d = 61
    · subst d1; simp
    · simp [d1]
  simp [c1, c2, c3, c4, c5, c6, c7, c8, c9, c10, c11]
def sgT (Q : Int → zM → Prop) (M10 : zM) : Prop := ((zR (M10 102 20)) ∧ (((M10 102 20) = 2 → (∀ M11, M11 = zup M10 102 18 ((M10 102 18) + 1) → Q 0 M11)) ∧ (¬ (M10 102 20) = 2 → ((zR (M10 102 20)) ∧ (((M10 102 20) = 4 → (∀ M12, M12 = zup M10 102 18 ((M10 102 18) + 1) → Q 0 M12)) ∧ (¬ (M10 102 20) = 4 → ((zR (M10 102 20)) ∧ ((¬ (M10 102 20) = 5 → Q 0 M10) ∧ ((M10 102 20) = 5 → (∀ M13, M13 = zup M10 102 18 ((M10 102 18) + 1) → Q 0 M13))))))))))
def tkT (E : zE) (Q : Int → zM → Prop) (X90 X170 : zM → Prop) (M1 : zM) : Prop := ((zR (M1 102 18) ∧ zR (M1 102 17)) ∧ ((¬ (M1 102 18) = (M1 102 17) → (zP E mX12_isSmall [.inr (.inr 102), .inl (M1 102 18)] M1 (fun r2 M3 => ((zR r2) ∧ ((r2 = 0 → (zP E mX12_isDigit [.inr (.inr 102), .inl (M3 102 18)] M3 (fun r4 M5 => ((zR r4) ∧ ((r4 = 0 → (0 ≤ M5 102 18 ∧ M5 102 18 < 500) ∧ (∀ M6, M6 = zup M5 102 18 ((M5 102 18) + 1) → (zP E mX12_signOf [.inr (.inr 102), .inl (M5 103 ((M5 102 18).toNat))] M6 (fun r7 M8 => (∀ M9, M9 = zup M8 102 20 r7 → ((zR (M9 102 20)) ∧ ((0 ≤ (M9 102 20) → (∀ M10, M10 = zup M9 102 19 3 → sgT Q M10)) ∧ ((M9 102 20) < 0 → (∀ M14, M14 = zup M9 102 19 4 → sgT Q M14))))))))) ∧ (¬ r4 = 0 → (∀ M18, M18 = zup M5 102 19 2 → (∀ M19, M19 = zup M18 102 20 0 → X170 M19)))))))) ∧ (¬ r2 = 0 → X90 M3)))))) ∧ ((M1 102 18) = (M1 102 17) → (∀ M20, M20 = zup M1 102 19 0 → Q 0 M20))))
theorem sg_fin {M : zM} {Q : Int → zM → Prop} {e : Nat} {kd w p : Int} (hw : zR w) (h : Q 0 (rtS M ((e + (if w = 2 ∨ w = 4 ∨ w = 5 then 2 else 1) : Nat) : Int) kd w p)) : sgT Q (rtS M ((e + 1 : Nat) : Int) kd w p) := by
  obtain ⟨e1, e2, e3, -⟩ := rtS_r M ((e + 1 : Nat) : Int) kd w p
  unfold sgT
  rw [e3, e1]
  have two : (w = 2 ∨ w = 4 ∨ w = 5) → ∀ M11, M11 = zup (rtS M ((e + 1 : Nat) : Int) kd w p) 102 18 (((e + 1 : Nat) : Int) + 1) → Q 0 M11 := fun q M11 h11 => by
    rw [if_pos q] at h
    rw [h11, rtS_nx]
    exact h
  refine ⟨hw, fun q => two (Or.inl q), fun q => ⟨hw, fun q2 => two (Or.inr (Or.inl q2)), fun q2 => ⟨hw, fun q3 => ?_, fun q3 => two (Or.inr (Or.inr q3))⟩⟩⟩
  rw [if_neg (by omega)] at h
  exact h
theorem nmq_0 : nmq 0 0 := Or.inl ⟨by decide, rfl⟩
theorem nmq_s {w v d : Int} (h : nmq w v) (hw : 0 ≤ w) (hd : 48 ≤ d ∧ d ≤ 57) : nmq (if 99999 < w then w else 10 * w + d - 48) (if (v * 10 + d) - 48 < 1000000 then (v * 10 + d) - 48 else 1000000) ∧ 0 ≤ (if 99999 < w then w else 10 * w + d - 48) := by
  unfold nmq at h ⊢
  rcases h with ⟨h1, h2⟩ | ⟨h1, h2, h3⟩
  · subst h2
    rw [if_neg (show ¬ 99999 < w by omega), if_pos (show (w * 10 + d) - 48 < 1000000 by omega)]
    by_cases q : (w * 10 + d) - 48 ≤ 99999
    · exact ⟨Or.inl ⟨q, by omega⟩, by omega⟩
    · exact ⟨Or.inr ⟨by omega, by omega, by omega⟩, by omega⟩
  · rw [if_pos h2, if_neg (by omega)]
    exact ⟨Or.inr ⟨by omega, h2, h3⟩, hw⟩
set_option maxHeartbeats 8000000 in
theorem r_take {E : zE} {M : zM} {Q : Int → zM → Prop} {t : Nat → Int} {n a : Nat} (hT : txQ M t n) (ha : M 102 18 = (a : Int)) (han : a ≤ n) (h : ∀ kd w : Int, tkQ (lxK t n a) (lxN t n a) kd w → Q 0 (rtS M (lxE t n a : Nat) kd w (lxP t n a : Nat))) : zP E mX12_take [.inr (.inr 102)] M Q := by
  obtain ⟨t1, t2, t3, t4, t5⟩ := id hT
  have pr := wh_r (p := isB) (t := t) han
  obtain ⟨p, hp⟩ : ∃ p, p = lxP t n a := ⟨_, rfl⟩
  have pr : a ≤ p ∧ p ≤ n := by rw [hp]; exact pr
  unfold lxE lxK lxN at h
  rw [← hp] at h
  obtain ⟨kd0, hk0⟩ : ∃ kd0, kd0 = M 102 19 := ⟨_, rfl⟩
  obtain ⟨w0, hw0⟩ : ∃ w0, w0 = M 102 20 := ⟨_, rfl⟩
  -- what stands behind the blanks
  have tail : ∀ (X90 X170 : zM → Prop), (n ≤ p ∨ True) → ((p < n → isL (t p) = true → X90 (rtS M (p : Nat) kd0 w0 (p : Nat))) → (p < n → isL (t p) = false → isD (t p) = true → X170 (rtS M (p : Nat) 2 0 (p : Nat))) → tkT E Q X90 X170 (rtS M (p : Nat) kd0 w0 (p : Nat))) := by
    intro X90 X170 _ hX1 hX2
    obtain ⟨e1, e2, e3, e4, e5, e6, e7⟩ := rtS_r M (p : Nat) kd0 w0 (p : Nat)
    have hT1 := txQ_s hT (p : Nat) kd0 w0 (p : Nat)
    unfold tkT
    rw [e1, e5, t1]
    refine ⟨⟨by unfold zR; omega, by unfold zR; omega⟩, fun q => ?_, fun q M20 h20 => ?_⟩
    · have pn : p < n := by omega
      refine r_isSmall hT1 (by omega) ⟨ite01.1, fun q2 => ?_, fun q2 => ?_⟩
      · have q3 : isL (t p) = false := by
          have := ite01.2.mp q2
          cases hL : isL (t p) with
          | false => rfl
          | true => exact absurd ⟨pn, hL⟩ this
        rw [e1]
        refine r_isDigit hT1 (by omega) ⟨ite01.1, fun q4 => ?_, fun q4 => ?_⟩
        · have q5 : isD (t p) = false := by
            have := ite01.2.mp q4
            cases hD : isD (t p) with
            | false => rfl
            | true => exact absurd ⟨pn, hD⟩ this
          rw [e1, e6, t3, Int.toNat_natCast]
          refine ⟨by omega, fun M6 h6 => ?_⟩
          have h6' : M6 = rtS M ((p + 1 : Nat) : Int) kd0 w0 (p : Nat) := by rw [h6, rtS_nx]; rfl
          rw [h6']
          have hT6 := txQ_s hT ((p + 1 : Nat) : Int) kd0 w0 (p : Nat)
          refine r_signOf (n := n) hT6 (by omega) (rtS_r ..).1 (t4 p) ?_
          intro M9 h9
          rw [rtS_wh] at h9
          obtain ⟨sr, sl⟩ := sg_rel (t p) (byD t n (p + 1))
          rw [if_neg (by omega), if_neg (by rw [q3]; decide), if_neg (by rw [q5]; decide), sl, if_neg (by omega), if_neg (by rw [q3]; decide), if_neg (by rw [q5]; decide)] at h
          rw [h9, (rtS_r ..).2.2.1]
          obtain ⟨w, hw⟩ : ∃ w, w = sgR (t p) (byD t n (p + 1)) := ⟨_, rfl⟩
          rw [← hw] at sr h ⊢
          have zw : zR w := by unfold zR; omega
          refine ⟨zw, fun q6 M10 h10 => ?_, fun q6 M14 h14 => ?_⟩
          · rw [h10, rtS_kd]
            refine sg_fin zw (h 3 w ⟨fun q7 => by omega, fun q7 => by omega, fun q7 => by omega, fun q7 => by omega, fun q7 => ⟨rfl, by omega⟩⟩)
          · rw [h14, rtS_kd]
            refine sg_fin zw (h 4 w ⟨fun q7 => by omega, fun q7 => by omega, fun q7 => by omega, fun _ => rfl, fun q7 => by omega⟩)
        · have q5 : isD (t p) = true := (Classical.byContradiction (fun q6 => q4 (ite01.2.mpr q6)) : p < n ∧ isD (t p) = true).2
          intro M18 h18 M19 h19
          rw [h19, h18, rtS_kd, rtS_wh]
          exact hX2 pn q3 q5
      · exact hX1 pn (Classical.byContradiction (fun q6 => q2 (ite01.2.mpr q6)) : p < n ∧ isL (t p) = true).2
    · rw [if_pos (by omega), if_pos (by omega)] at h
      rw [h20, rtS_kd]
      exact h 0 w0 ⟨fun _ => rfl, fun q7 => by omega, fun q7 => by omega, fun q7 => by omega, fun q7 => by omega⟩
  have core : ∀ (X0 X90 X170 : zM → Prop) (i : Nat), a ≤ i → i ≤ n → wh isB t n i = p → (∀ M', M' = rtS M ((i + 1 : Nat) : Int) kd0 w0 (M 102 21) → i < n → wh isB t n (i + 1) = p → X0 M') → (p < n → isL (t p) = true → X90 (rtS M (p : Nat) kd0 w0 (p : Nat))) → (p < n → isL (t p) = false → isD (t p) = true → X170 (rtS M (p : Nat) 2 0 (p : Nat))) →
      ∀ M', M' = rtS M (i : Nat) kd0 w0 (M 102 21) →
      ((zR (M' 102 18) ∧ zR (M' 102 17)) ∧ (((M' 102 17) ≤ (M' 102 18) → (∀ M1, M1 = zup M' 102 21 (M' 102 18) → tkT E Q X90 X170 M1)) ∧ ((M' 102 18) < (M' 102 17) → (0 ≤ M' 102 18 ∧ M' 102 18 < 500) ∧ ((zR (M' 103 ((M' 102 18).toNat))) ∧ (((M' 103 ((M' 102 18).toNat)) = 10 → (∀ M21, M21 = zup M' 102 18 ((M' 102 18) + 1) → X0 M21)) ∧ (¬ (M' 103 ((M' 102 18).toNat)) = 10 → (0 ≤ M' 102 18 ∧ M' 102 18 < 500) ∧ ((zR (M' 103 ((M' 102 18).toNat))) ∧ ((¬ (M' 103 ((M' 102 18).toNat)) = 32 → (∀ M22, M22 = zup M' 102 21 (M' 102 18) → tkT E Q X90 X170 M22)) ∧ ((M' 103 ((M' 102 18).toNat)) = 32 → (∀ M42, M42 = zup M' 102 18 ((M' 102 18) + 1) → X0 M42)))))))))) := by
    intro X0 X90 X170 i hai hi hw p2 hX1 hX2 M' hM'
    subst hM'
    obtain ⟨e1, e2, e3, e4, e5, e6, e7⟩ := rtS_r M (i : Nat) kd0 w0 (M 102 21)
    rw [e1, e5, t1, e6, t3, Int.toNat_natCast]
    have tr := t4 i
    have tl : (n ≤ i ∨ isB (t i) = false) → ∀ M1, M1 = zup (rtS M (i : Nat) kd0 w0 (M 102 21)) 102 21 (i : Int) → tkT E Q X90 X170 M1 := fun q M1 h1 => by
      have ip : i = p := by rw [← hw]; exact (wh_e q).symm
      rw [h1, rtS_pl, ip]
      exact tail X90 X170 (Or.inr trivial) hX1 hX2
    have nx : isB (t i) = true → i < n → ∀ M1, M1 = zup (rtS M (i : Nat) kd0 w0 (M 102 21)) 102 18 ((i : Int) + 1) → X0 M1 := fun q q1 M1 h1 => by
      refine p2 M1 (by rw [h1, rtS_nx]; rfl) q1 ?_
      rw [← hw]
      exact (wh_s q1 q).symm
    refine ⟨⟨by unfold zR; omega, by unfold zR; omega⟩, fun q => tl (Or.inl (by omega)), fun q => ⟨by omega, by unfold zR; omega, fun q2 => nx (by rw [q2]; rfl) (by omega), fun q2 => ⟨by omega, by unfold zR; omega, fun q3 => tl (Or.inr ?_), fun q3 => nx (by rw [q3]; rfl) (by omega)⟩⟩⟩
    unfold isB
    rw [decide_eq_false_iff_not]
    omega
  have hM0 : M = rtS M (a : Nat) kd0 w0 (M 102 21) := by rw [← ha, hk0, hw0]; exact (rtS_self M).symm
  refine vcX12_take (fun m M' => ∃ i : Nat, a ≤ i ∧ i ≤ n ∧ wh isB t n i = p ∧ m = 5000 - i ∧ M' = rtS M (i : Nat) kd0 w0 (M 102 21))
    (fun m M' => ∃ i : Nat, p ≤ i ∧ i ≤ n ∧ wh isL t n i = wh isL t n p ∧ p < n ∧ isL (t p) = true ∧ m = 2000 - i ∧ M' = rtS M (i : Nat) kd0 w0 (p : Nat))
    (fun m M' => ∃ i : Nat, ∃ w : Int, p ≤ i ∧ i ≤ n ∧ wh isD t n i = wh isD t n p ∧ p < n ∧ isL (t p) = false ∧ isD (t p) = true ∧ m = 2000 - i ∧ (∀ j, j < i - p → isD (t (p + j)) = true) ∧ nmq w (nmv t p (i - p)) ∧ 0 ≤ w ∧ M' = rtS M (i : Nat) 2 w (p : Nat)) ?_ ?_ ?_ ?_
  · exact core (fun M' => ∃ n', ∃ i : Nat, a ≤ i ∧ i ≤ n ∧ wh isB t n i = p ∧ n' = 5000 - i ∧ M' = rtS M (i : Nat) kd0 w0 (M 102 21)) (fun M' => ∃ n', ∃ i : Nat, p ≤ i ∧ i ≤ n ∧ wh isL t n i = wh isL t n p ∧ p < n ∧ isL (t p) = true ∧ n' = 2000 - i ∧ M' = rtS M (i : Nat) kd0 w0 (p : Nat)) (fun M' => ∃ n', ∃ i : Nat, ∃ w : Int, p ≤ i ∧ i ≤ n ∧ wh isD t n i = wh isD t n p ∧ p < n ∧ isL (t p) = false ∧ isD (t p) = true ∧ n' = 2000 - i ∧ (∀ j, j < i - p → isD (t (p + j)) = true) ∧ nmq w (nmv t p (i - p)) ∧ 0 ≤ w ∧ M' = rtS M (i : Nat) 2 w (p : Nat)) a (Nat.le_refl _) han hp.symm
      (fun M' hM' q1 q2 => ⟨5000 - (a + 1), a + 1, by omega, by omega, q2, rfl, hM'⟩)
      (fun q1 q2 => ⟨2000 - p, p, Nat.le_refl _, pr.2, rfl, q1, q2, rfl, rfl⟩)
      (fun q1 q2 q3 => ⟨2000 - p, p, 0, Nat.le_refl _, pr.2, rfl, q1, q2, q3, rfl, fun j hj => by omega, by rw [Nat.sub_self]; exact nmq_0, Int.le_refl _, rfl⟩) M hM0
  · rintro m M' ⟨i, hai, hi, hw, rfl, hM'⟩
    exact core (fun M' => ∃ n', n' < 5000 - i ∧ ∃ i : Nat, a ≤ i ∧ i ≤ n ∧ wh isB t n i = p ∧ n' = 5000 - i ∧ M' = rtS M (i : Nat) kd0 w0 (M 102 21)) (fun M' => ∃ n', n' < 5000 - i ∧ ∃ i : Nat, p ≤ i ∧ i ≤ n ∧ wh isL t n i = wh isL t n p ∧ p < n ∧ isL (t p) = true ∧ n' = 2000 - i ∧ M' = rtS M (i : Nat) kd0 w0 (p : Nat)) (fun M' => ∃ n', n' < 5000 - i ∧ ∃ i : Nat, ∃ w : Int, p ≤ i ∧ i ≤ n ∧ wh isD t n i = wh isD t n p ∧ p < n ∧ isL (t p) = false ∧ isD (t p) = true ∧ n' = 2000 - i ∧ (∀ j, j < i - p → isD (t (p + j)) = true) ∧ nmq w (nmv t p (i - p)) ∧ 0 ≤ w ∧ M' = rtS M (i : Nat) 2 w (p : Nat)) i hai hi hw
      (fun M' hM' q1 q2 => ⟨5000 - (i + 1), by omega, i + 1, by omega, by omega, q2, rfl, hM'⟩)
      (fun q1 q2 => ⟨2000 - p, by omega, p, Nat.le_refl _, pr.2, rfl, q1, q2, rfl, rfl⟩)
      (fun q1 q2 q3 => ⟨2000 - p, by omega, p, 0, Nat.le_refl _, pr.2, rfl, q1, q2, q3, rfl, fun j hj => by omega, by rw [Nat.sub_self]; exact nmq_0, Int.le_refl _, rfl⟩) M' hM'
  · rintro m M' ⟨i, hpi, hi, hw, pn, hL, rfl, rfl⟩
    obtain ⟨e1, e2, e3, e4, e5, e6, e7⟩ := rtS_r M (i : Nat) kd0 w0 (p : Nat)
    have hT1 := txQ_s hT (i : Nat) kd0 w0 (p : Nat)
    rw [e1]
    refine r_isSmall hT1 (by omega) ⟨ite01.1, fun q2 => ?_, fun q2 M92 h92 => ?_⟩
    · have q3 := ite01.2.mp q2
      have ie : i = wh isL t n p := by
        rw [← hw]
        refine (wh_e ?_).symm
        by_cases q4 : i < n
        · refine Or.inr ?_
          cases hL2 : isL (t i) with
          | false => rfl
          | true => exact absurd ⟨q4, hL2⟩ q3
        · exact Or.inl (by omega)
      rw [e4, e1]
      refine r_wordAt (n := n) hT1 hpi hi ?_
      rw [if_neg (by omega), if_pos hL, if_neg (by omega), if_pos hL, ← ie] at h
      intro M89 h89
      rw [rtS_wh] at h89
      rw [h89, (rtS_r ..).2.2.1]
      have wr := wrT_r t p i 77 (Nat.le_refl _)
      obtain ⟨v, hv⟩ : ∃ v, v = wrT t p i 77 := ⟨_, rfl⟩
      rw [← hv] at wr h ⊢
      by_cases q4 : v = 33
      · rw [if_pos q4]
        refine ⟨zRd rfl, fun q5 => absurd q5 (by decide), fun _ M91 h91 => ?_⟩
        rw [h91, rtS_kd]
        exact h 4 (-1) ⟨fun q7 => by omega, fun q7 => by omega, fun q7 => by omega, fun _ => rfl, fun q7 => by omega⟩
      · rw [if_neg q4]
        refine ⟨by unfold zR; omega, fun q5 M90 h90 => ?_, fun q5 => absurd q5 (by omega)⟩
        rw [h90, rtS_kd]
        exact h 1 v ⟨fun q7 => by omega, fun q7 => ⟨rfl, rfl⟩, fun q7 => by omega, fun q7 => by omega, fun q7 => by omega⟩
    · have q3 : i < n ∧ isL (t i) = true := Classical.byContradiction (fun q6 => q2 (ite01.2.mpr q6))
      rw [e1, rtS_nx] at h92
      exact ⟨2000 - (i + 1), by omega, i + 1, by omega, by omega, by rw [← hw]; exact (wh_s q3.1 q3.2).symm, pn, hL, rfl, h92⟩
  · rintro m M' ⟨i, w, hpi, hi, hw, pn, hL, hD, rfl, hd, hq, hw0', rfl⟩
    obtain ⟨e1, e2, e3, e4, e5, e6, e7⟩ := rtS_r M (i : Nat) 2 w (p : Nat)
    have hT1 := txQ_s hT (i : Nat) 2 w (p : Nat)
    have wb : w ≤ 999999 := by rcases hq with q | q <;> omega
    rw [e1]
    refine r_isDigit hT1 (by omega) ⟨ite01.1, fun q2 => ?_, fun q2 => ?_⟩
    · have q3 := ite01.2.mp q2
      have ie : i = wh isD t n p := by
        rw [← hw]
        refine (wh_e ?_).symm
        by_cases q4 : i < n
        · refine Or.inr ?_
          cases hD2 : isD (t i) with
          | false => rfl
          | true => exact absurd ⟨q4, hD2⟩ q3
        · exact Or.inl (by omega)
      rw [if_neg (by omega), if_neg (by rw [hL]; decide), if_pos hD, if_neg (by omega), if_neg (by rw [hL]; decide), if_pos hD, ← ie] at h
      exact h 2 w ⟨fun q7 => absurd q7 (by decide), fun q7 => absurd q7.2 (by decide), fun _ => ⟨rfl, hq, hw0'⟩, fun q7 => absurd q7 (by decide), fun q7 => absurd q7.1 (by decide)⟩
    · have q3 : i < n ∧ isD (t i) = true := Classical.byContradiction (fun q6 => q2 (ite01.2.mpr q6))
      have q3d := q3.2
      unfold isD at q3d
      rw [decide_eq_true_iff] at q3d
      obtain ⟨s1, s2⟩ := nmq_s (d := t i) hq hw0' q3d
      have stepN : nmv t p (i + 1 - p) = (if ((nmv t p (i - p) * 10) + t i) - 48 < 1000000 then ((nmv t p (i - p) * 10) + t i) - 48 else 1000000) := by
        rw [show i + 1 - p = (i - p) + 1 by omega]
        show (if ((nmv t p (i - p) * 10) + t (p + (i - p))) - 48 < 1000000 then _ else _) = _
        rw [show p + (i - p) = i by omega]
      rw [← stepN] at s1
      have nxt : ∀ v : Int, v = (if 99999 < w then w else 10 * w + t i - 48) → ∀ M96, M96 = rtS M ((i + 1 : Nat) : Int) 2 v (p : Nat) → ∃ n', n' < 2000 - i ∧ ∃ i' : Nat, ∃ w : Int, p ≤ i' ∧ i' ≤ n ∧ wh isD t n i' = wh isD t n p ∧ p < n ∧ isL (t p) = false ∧ isD (t p) = true ∧ n' = 2000 - i' ∧ (∀ j, j < i' - p → isD (t (p + j)) = true) ∧ nmq w (nmv t p (i' - p)) ∧ 0 ≤ w ∧ M96 = rtS M (i' : Nat) 2 w (p : Nat) := fun v hv M96 h96 => by
        rw [← hv] at s1 s2
        refine ⟨2000 - (i + 1), by omega, i + 1, v, by omega, by omega, by rw [← hw]; exact (wh_s q3.1 q3.2).symm, pn, hL, hD, rfl, fun j hj => ?_, s1, s2, h96⟩
        by_cases qj : j < i - p
        · exact hd j qj
        · rw [show p + j = i by omega]; exact q3.2
      rw [e3, e1, e6, t3, Int.toNat_natCast]
      refine ⟨by unfold zR; omega, fun q4 => ⟨by omega, fun M95 h95 M96 h96 => ?_⟩, fun q4 M97 h97 M98 h98 => ?_⟩
      · rw [rtS_wh] at h95
        rw [h95, (rtS_r ..).1, rtS_nx] at h96
        exact nxt _ (by rw [if_neg (by omega)]) M96 h96
      · rw [rtS_wh] at h97
        rw [h97, (rtS_r ..).1, rtS_nx] at h98
        exact nxt _ (by rw [if_pos q4]) M98 h98
