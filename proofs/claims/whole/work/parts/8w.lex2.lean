/-! the class's tape: signs, next() -/
theorem c_readSign {E : zE} {M : zM} {Q : Int → zM → Prop} {t : Nat → Int} {n a : Nat} {k m : Int} (hT : txR M t n) (han : a < n) (h : Q 0 (tpS M ((a + sgL (t a) (byD t n (a + 1)) : Nat) : Int) (sgK (t a) (byD t n (a + 1))) (a : Nat) m)) : zP E mX9_readSign [.inr (.inr 2)] (tpS M (a : Nat) k (a : Nat) m) Q := by
  obtain ⟨t1, t2, t3, t4⟩ := id hT
  obtain ⟨e1, e2, e3, e4, e5, e6⟩ := tpS_r M (a : Nat) k (a : Nat) m
  refine vcX9_readSign ?_
  rw [e1, e6, t3, Int.toNat_natCast]
  have hb := t4 a
  obtain ⟨c, hc⟩ : ∃ c, c = t a := ⟨_, rfl⟩
  obtain ⟨d, hd⟩ : ∃ d, d = byD t n (a + 1) := ⟨_, rfl⟩
  rw [← hc] at hb h ⊢
  rw [← hd] at h
  refine ⟨by omega, fun M1 h1 => ?_⟩
  have h1' : M1 = tpS M ((a + 1 : Nat) : Int) k (a : Nat) m := by rw [h1, tpS_at]; rfl
  have fin : ∀ v : Int, sgK c d = v → sgL c d = 1 → ∀ M2, M2 = zup M1 2 4 v → Q 0 M2 := fun v q1 q2 M2 h2 => by
    rw [h2, h1', tpS_tk, ← q1]
    rw [q2] at h
    exact h
  have fin2 : ∀ v : Int, sgK c d = v → sgL c d = 2 → ∀ M2, M2 = zup (tpS M ((a + 1 + 1 : Nat) : Int) k (a : Nat) m) 2 4 v → Q 0 M2 := fun v q1 q2 M2 h2 => by
    rw [h2, tpS_tk, ← q1]
    rw [q2] at h
    exact h
  rw [h1'] at fin ⊢
  refine ⟨by unfold zR; omega, fun q => fin 33 ?_ ?_, fun q => fin 18 (by rw [q]; simp [sgK]) (by rw [q]; simp [sgL]), fun q => fin 19 (by rw [q]; simp [sgK]) (by rw [q]; simp [sgL]), fun q => fin 23 (by rw [q]; simp [sgK]) (by rw [q]; simp [sgL]), fun q => fin 21 (by rw [q]; simp [sgK]) (by rw [q]; simp [sgL]), fun q => fin 20 (by rw [q]; simp [sgK]) (by rw [q]; simp [sgL]), fun q => fin 22 (by rw [q]; simp [sgK]) (by rw [q]; simp [sgL]), fun q => fin 33 (by rw [q]; simp [sgK]) (by rw [q]; simp [sgL]), fun q => fin 24 (by rw [q]; simp [sgK]) (by rw [q]; simp [sgL]), fun q => fin 33 (by rw [q]; simp [sgK]) (by rw [q]; simp [sgL]), fun q => fin 33 (by rw [q]; simp [sgK]) (by rw [q]; simp [sgL]), fun q => fin 33 (by rw [q]; simp [sgK]) (by rw [q]; simp [sgL]), fun q => fin 33 (by rw [q]; simp [sgK]) (by rw [q]; simp [sgL]), fun q => fin 33 (by rw [q]; simp [sgK]) (by rw [q]; simp [sgL]), fun q => fin 33 (by rw [q]; simp [sgK]) (by rw [q]; simp [sgL]), fun q => fin 33 (by rw [q]; simp [sgK]) (by rw [q]; simp [sgL]), fun q => fin 33 (by rw [q]; simp [sgK]) (by rw [q]; simp [sgL]), fun q => fin 33 (by rw [q]; simp [sgK]) (by rw [q]; simp [sgL]), fun q => fin 33 (by rw [q]; simp [sgK]) (by rw [q]; simp [sgL]), fun q => fin 33 (by rw [q]; simp [sgK]) (by rw [q]; simp [sgL]), fun q => fin 17 (by rw [q]; simp [sgK]) (by rw [q]; simp [sgL]), fun q => ?_, fun q => fin 27 (by rw [q]; simp [sgK]) (by rw [q]; simp [sgL]), fun q => ?_⟩
  · unfold sgK
    rw [if_neg (by omega), if_neg (by omega), if_neg (by omega), if_neg (by omega), if_neg (by omega), if_neg (by omega), if_neg (by omega), if_neg (by omega), if_neg (by omega), if_neg (by omega), if_neg (by omega)]
  · unfold sgL
    rw [if_neg (by omega)]
  · refine c_takes hT (by omega) (by omega) (fun q1 => ?_) (fun q1 => ?_)
    · rw [← hd] at q1
      exact ⟨zRd rfl, fun q2 => absurd q2 (by decide), fun _ => fin2 26 (by rw [q, q1]; simp [sgK]) (by rw [q, q1]; simp [sgL])⟩
    · rw [← hd] at q1
      refine ⟨zRd rfl, fun _ => ?_, fun q2 => absurd rfl q2⟩
      refine c_takes hT (by omega) (by omega) (fun q2 => ?_) (fun q2 => ?_)
      · rw [← hd] at q2
        exact ⟨zRd rfl, fun q3 => absurd q3 (by decide), fun _ => fin2 28 (by rw [q, q2]; simp [sgK]) (by rw [q, q2]; simp [sgL])⟩
      · rw [← hd] at q2
        exact ⟨zRd rfl, fun _ => fin 25 (by rw [q]; simp [sgK, q1, q2]) (by rw [q]; simp [sgL, q1, q2]), fun q3 => absurd rfl q3⟩
  · refine c_takes hT (by omega) (by omega) (fun q1 => ?_) (fun q1 => ?_)
    · rw [← hd] at q1
      exact ⟨zRd rfl, fun q2 => absurd q2 (by decide), fun _ => fin2 29 (by rw [q, q1]; simp [sgK]) (by rw [q, q1]; simp [sgL])⟩
    · rw [← hd] at q1
      exact ⟨zRd rfl, fun _ => fin 30 (by rw [q]; simp [sgK, q1]) (by rw [q]; simp [sgL, q1]), fun q3 => absurd rfl q3⟩
/-- the memory behind next() -/
def nxM (M : zM) (t : Nat → Int) (n a : Nat) : zM := tpS M (lxE t n a : Nat) (lxK t n a) (lxP t n a : Nat) (if n ≤ lxP t n a then M 2 6 else if isL (t (lxP t n a)) = true then M 2 6 else if isD (t (lxP t n a)) = true then lxN t n a else M 2 6)
def nxT (E : zE) (Q : Int → zM → Prop) (M1 : zM) : Prop := ((zR (M1 2 3) ∧ zR (M1 2 2)) ∧ (((M1 2 3) < (M1 2 2) → (0 ≤ M1 2 3 ∧ M1 2 3 < 500) ∧ (zP E mX9_isLetter [.inl (M1 3 ((M1 2 3).toNat))] M1 (fun r2 M3 => ((zR r2) ∧ ((r2 = 0 → (0 ≤ M3 2 3 ∧ M3 2 3 < 500) ∧ (zP E mX9_isDigit [.inl (M3 3 ((M3 2 3).toNat))] M3 (fun r4 M5 => ((zR r4) ∧ ((r4 = 0 → (zP E mX9_readSign [.inr (.inr 2)] M5 (fun _ M7 => Q 0 M7))) ∧ (¬ r4 = 0 → (zP E mX9_readNumber [.inr (.inr 2)] M5 (fun _ M9 => Q 0 M9)))))))) ∧ (¬ r2 = 0 → (zP E mX9_readWord [.inr (.inr 2)] M3 (fun _ M11 => Q 0 M11)))))))) ∧ ((M1 2 2) ≤ (M1 2 3) → (∀ M12, M12 = zup M1 2 4 32 → Q 0 M12))))
theorem nx_tail {E : zE} {M : zM} {Q : Int → zM → Prop} {t : Nat → Int} {n a : Nat} {k : Int} (hT : txR M t n) (han : a ≤ n) (h : Q 0 (nxM M t n a)) : nxT E Q (tpS M (lxP t n a : Nat) k (lxP t n a : Nat) (M 2 6)) := by
  obtain ⟨t1, t2, t3, t4⟩ := id hT
  have pr := wh_r (p := isB) (t := t) han
  obtain ⟨p, hp⟩ : ∃ p, p = lxP t n a := ⟨_, rfl⟩
  have pr : a ≤ p ∧ p ≤ n := by rw [hp]; exact pr
  unfold nxM lxE lxK lxN at h
  rw [← hp] at h ⊢
  obtain ⟨e1, e2, e3, e4, e5, e6⟩ := tpS_r M (p : Nat) k (p : Nat) (M 2 6)
  unfold nxT
  rw [e1, e5, t1, e6, t3, Int.toNat_natCast]
  refine ⟨⟨by unfold zR; omega, by unfold zR; omega⟩, fun q => ⟨by omega, ?_⟩, fun q M12 h12 => ?_⟩
  · have np : ¬ n ≤ p := by omega
    rw [if_neg np, if_neg np, if_neg np] at h
    refine c_isLetter (t4 p) ⟨ite01.1, fun q2 => ?_, fun q2 => ?_⟩
    · have q3 := ite01.2.mp q2
      rw [if_neg q3, if_neg q3, if_neg q3] at h
      rw [e1, e6, t3, Int.toNat_natCast]
      refine ⟨by omega, c_isDigit (t4 p) ⟨ite01.1, fun q4 => ?_, fun q4 => ?_⟩⟩
      · have q5 := ite01.2.mp q4
        rw [if_neg q5, if_neg q5, if_neg q5] at h
        exact c_readSign hT (by omega) h
      · have q5 : isD (t p) = true := Classical.byContradiction (fun q6 => q4 (ite01.2.mpr q6))
        rw [if_pos q5, if_pos q5, if_pos q5] at h
        exact c_readNumber hT (by omega) h
    · have q3 : isL (t p) = true := Classical.byContradiction (fun q4 => q2 (ite01.2.mpr q4))
      rw [if_pos q3, if_pos q3, if_pos q3] at h
      exact c_readWord hT (by omega) h
  · have np : n ≤ p := by omega
    rw [if_pos np, if_pos np, if_pos np] at h
    rw [h12, tpS_tk]
    exact h
theorem c_next {E : zE} {M : zM} {Q : Int → zM → Prop} {t : Nat → Int} {n a : Nat} (hT : txR M t n) (ha : M 2 3 = (a : Int)) (han : a ≤ n) (h : Q 0 (nxM M t n a)) : zP E mX9_next [.inr (.inr 2)] M Q := by
  obtain ⟨t1, t2, t3, t4⟩ := id hT
  have core : ∀ (X : zM → Prop) (i : Nat), a ≤ i → i ≤ n → wh isB t n i = lxP t n a → (∀ M', M' = tpS M ((i + 1 : Nat) : Int) (M 2 4) (M 2 5) (M 2 6) → i < n → wh isB t n (i + 1) = lxP t n a → X M') →
      ∀ M', M' = tpS M (i : Nat) (M 2 4) (M 2 5) (M 2 6) →
      ((zR (M' 2 3) ∧ zR (M' 2 2)) ∧ (((M' 2 2) ≤ (M' 2 3) → (∀ M1, M1 = zup M' 2 5 (M' 2 3) → nxT E Q M1)) ∧ ((M' 2 3) < (M' 2 2) → (0 ≤ M' 2 3 ∧ M' 2 3 < 500) ∧ ((zR (M' 3 ((M' 2 3).toNat))) ∧ (((M' 3 ((M' 2 3).toNat)) = 10 → (∀ M13, M13 = zup M' 2 3 ((M' 2 3) + 1) → X M13)) ∧ (¬ (M' 3 ((M' 2 3).toNat)) = 10 → (0 ≤ M' 2 3 ∧ M' 2 3 < 500) ∧ ((zR (M' 3 ((M' 2 3).toNat))) ∧ ((¬ (M' 3 ((M' 2 3).toNat)) = 32 → (∀ M14, M14 = zup M' 2 5 (M' 2 3) → nxT E Q M14)) ∧ ((M' 3 ((M' 2 3).toNat)) = 32 → (∀ M26, M26 = zup M' 2 3 ((M' 2 3) + 1) → X M26)))))))))) := by
    intro X i hai hi hw p2 M' hM'
    subst hM'
    obtain ⟨e1, e2, e3, e4, e5, e6⟩ := tpS_r M (i : Nat) (M 2 4) (M 2 5) (M 2 6)
    rw [e1, e5, t1, e6, t3, Int.toNat_natCast]
    have tr := t4 i
    have tl : (n ≤ i ∨ isB (t i) = false) → ∀ M1, M1 = zup (tpS M (i : Nat) (M 2 4) (M 2 5) (M 2 6)) 2 5 (i : Int) → nxT E Q M1 := fun q M1 h1 => by
      have ip : i = lxP t n a := by rw [← hw]; exact (wh_e q).symm
      rw [h1, tpS_pl, ip]
      exact nx_tail hT han h
    have nx : isB (t i) = true → i < n → ∀ M1, M1 = zup (tpS M (i : Nat) (M 2 4) (M 2 5) (M 2 6)) 2 3 ((i : Int) + 1) → X M1 := fun q q1 M1 h1 => by
      refine p2 M1 (by rw [h1, tpS_at]; rfl) q1 ?_
      rw [← hw]
      exact (wh_s q1 q).symm
    refine ⟨⟨by unfold zR; omega, by unfold zR; omega⟩, fun q => tl (Or.inl (by omega)), fun q => ⟨by omega, by unfold zR; omega, fun q2 => nx (by rw [q2]; rfl) (by omega), fun q2 => ⟨by omega, by unfold zR; omega, fun q3 => tl (Or.inr ?_), fun q3 => nx (by rw [q3]; rfl) (by omega)⟩⟩⟩
    unfold isB
    rw [decide_eq_false_iff_not]
    omega
  have hM0 : M = tpS M (a : Nat) (M 2 4) (M 2 5) (M 2 6) := by rw [← ha]; exact (tpS_self M).symm
  refine vcX9_next (fun m' M' => ∃ i : Nat, a ≤ i ∧ i ≤ n ∧ wh isB t n i = lxP t n a ∧ m' = 1000 - i ∧ M' = tpS M (i : Nat) (M 2 4) (M 2 5) (M 2 6)) ?_ ?_
  · exact core (fun M' => ∃ n', ∃ i : Nat, a ≤ i ∧ i ≤ n ∧ wh isB t n i = lxP t n a ∧ n' = 1000 - i ∧ M' = tpS M (i : Nat) (M 2 4) (M 2 5) (M 2 6)) a (Nat.le_refl _) han rfl (fun M' hM' q1 q2 => ⟨1000 - (a + 1), a + 1, by omega, by omega, q2, rfl, hM'⟩) M hM0
  · rintro m' M' ⟨i, hai, hi, hw, rfl, hM'⟩
    exact core (fun M' => ∃ n', n' < 1000 - i ∧ ∃ i : Nat, a ≤ i ∧ i ≤ n ∧ wh isB t n i = lxP t n a ∧ n' = 1000 - i ∧ M' = tpS M (i : Nat) (M 2 4) (M 2 5) (M 2 6)) i hai hi hw (fun M' hM' q1 q2 => ⟨1000 - (i + 1), by omega, i + 1, by omega, by omega, q2, rfl, hM'⟩) M' hM'
