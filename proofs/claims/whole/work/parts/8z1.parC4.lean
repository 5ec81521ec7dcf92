/-! the class's reader of rules: it keeps within its cells; the whole text -/
theorem pcn_u (W : Nat → Int) (n : Nat) : pcn W (n + 1) = pcn W n + (if W n = 18 then 1 else 0) := rfl
theorem pcn_c {W W' : Nat → Int} {n : Nat} (h : ∀ i, i < n → W' i = W i) : pcn W' n = pcn W n := by
  induction n with
  | zero => rfl
  | succ n ih => unfold pcn; rw [ih (fun i hi => h i (by omega)), h n (by omega)]
theorem pcn_r (W : Nat → Int) (n : Nat) : 0 ≤ pcn W n ∧ pcn W n ≤ n := by
  induction n with
  | zero => exact ⟨Int.le_refl _, Int.le_refl _⟩
  | succ n ih => unfold pcn; split <;> omega
/-- what settling keeps -/
theorem stl_k {b : Nat} (hb : b = 6 ∨ b = 13) {least : Int} (hl : 1 ≤ least) (k : Nat) (M : zM) (hk : M 1 7 = (k : Int)) (hs : 0 ≤ M b 7 ∧ (k : Int) - pcn (M 4) k + M b 7 ≤ 64) :
    ∃ k' : Nat, stlM b least k M 1 7 = (k' : Int) ∧ k' ≤ k ∧ stlM b least k M 4 = M 4 ∧ pcn (M 4) k' = pcn (M 4) k ∧ (k' : Int) + stlM b least k M b 7 = k + M b 7 ∧ (k' = 0 ∨ stre (M 4 (k' - 1)) < least) := by
  induction k generalizing M with
  | zero => exact ⟨0, hk, Nat.le_refl _, rfl, rfl, rfl, Or.inl rfl⟩
  | succ k ih =>
    unfold stlM
    rw [hk, show (((k + 1 : Nat) : Int) - 1).toNat = k by omega]
    by_cases q : 0 < ((k + 1 : Nat) : Int) ∧ least ≤ stre (M 4 k)
    · rw [if_pos q]
      have n18 : M 4 k ≠ 18 := fun q2 => by
        rw [q2] at q
        have : stre 18 = 0 := rfl
        omega
      have pk : pcn (M 4) (k + 1) = pcn (M 4) k := by rw [pcn_u, if_neg n18]; omega
      have pr := pcn_r (M 4) k
      rw [pk] at hs
      obtain ⟨M1, hM1⟩ : ∃ M1, M1 = zup M 1 7 (((k + 1 : Nat) : Int) - 1) := ⟨_, rfl⟩
      obtain ⟨M2, hM2⟩ : ∃ M2, M2 = wrM M1 b (M 4 k) 0 0 := ⟨_, rfl⟩
      rw [← hM1, ← hM2]
      have w1 : M1 4 = M 4 := by rw [hM1, zup_ne _ _ _ (by decide)]
      have w2 : M2 4 = M 4 := by rw [hM2, wrM_n (by omega), w1]
      have b1 : M1 b = M b := by rw [hM1, zup_ne _ _ _ (by omega)]
      have s2 : M2 b 7 = M b 7 + 1 := by
        rw [hM2]
        unfold wrM
        rw [b1, if_pos (by omega), zup_q, if_pos ⟨rfl, rfl⟩]
      have c2 : M2 1 7 = (k : Int) := by
        rw [hM2, wrM_n (by omega), hM1, zup_q, if_pos ⟨rfl, rfl⟩]
        omega
      obtain ⟨k', i1, i2, i3, i4, i5, i6⟩ := ih M2 c2 (by rw [w2, s2]; omega)
      rw [w2] at i3 i4 i6
      exact ⟨k', i1, by omega, i3, by rw [i4, pk], by rw [s2] at i5; omega, i6⟩
    · rw [if_neg q]
      refine ⟨k + 1, hk, Nat.le_refl _, rfl, rfl, rfl, Or.inr ?_⟩
      rw [show k + 1 - 1 = k by omega]
      have := (stre_r (M 4 k)).1
      omega
theorem stre0 {t : Int} (h : stre t < 1) : t = 18 := by
  unfold stre at h
  by_cases q : t = 18
  · exact q
  · rw [if_neg q] at h
    repeat' split at h
    all_goals omega
theorem pInv_lo {b : Nat} {M M2 : zM} (h : pInv b M) (hd : M 1 3 < 4) (d2 : 0 ≤ M2 1 3 ∧ M2 1 3 < 4) (s : M2 b 7 = M b 7) (l : M2 b 8 = M b 8) (k : M2 b 9 = M b 9) (t : M2 b 11 = 0 ∨ M2 b 11 = 1) : pInv b M2 := by
  obtain ⟨p3, p4, p5, p6, p7, p8, -⟩ := h
  have := p8 hd
  refine ⟨by omega, by omega, by omega, by omega, t, fun _ => by omega, fun q => by omega⟩
/-- the state within a line: the same but for what is said -/
theorem pInv_hi {b : Nat} {M M2 : zM} (h : pInv b M) (hd : 4 ≤ M 1 3) (d2 : 4 ≤ M2 1 3 ∧ M2 1 3 ≤ 10) (l : M2 b 8 = M b 8) (t : M2 b 11 = M b 11)
    (s : 0 ≤ M2 b 7) (k : M2 b 9 ≤ 64) (w : 0 ≤ M2 1 7) (o : 0 ≤ M2 1 8 ∧ M2 1 8 ≤ 8) (nm : M2 1 10 = 0 ∨ M2 1 10 = 1)
    (c : ∀ i : Nat, (i : Int) ≤ M2 1 8 → M2 5 i = 0 ∨ M2 5 i = 1) (wt : ∀ i : Nat, (i : Int) < M2 1 7 → 0 ≤ M2 4 i ∧ M2 4 i ≤ 33)
    (pc : pcn (M2 4) (M2 1 7).toNat = M2 1 8) (cn : M2 1 7 - M2 1 8 + M2 b 7 + (if 6 ≤ M2 1 3 ∧ M2 1 3 ≤ 9 then 1 else 0) ≤ M2 b 9) : pInv b M2 := by
  obtain ⟨p3, p4, p5, p6, p7, p8, -⟩ := h
  have := pcn_r (M2 4) (M2 1 7).toNat
  have cn' : M2 1 7 - M2 1 8 + M2 b 7 ≤ M2 b 9 := by split at cn <;> omega
  refine ⟨by omega, by omega, by omega, by omega, by omega, fun q => by omega, fun _ => ⟨w, o, nm, c, wt, pc, cn⟩⟩
theorem aw_q {M : zM} {t : Int} (h : M 1 7 < 72) : awM M t = zup (zup M 4 (M 1 7).toNat t) 1 7 (M 1 7 + 1) := by
  unfold awM
  rw [if_pos h]
theorem wr_q {M : zM} {b : Nat} {op kd nm : Int} (h : M b 7 < 64) : wrM M b op kd nm = zup (zup (zup (zup M (b + 1) (M b 7).toNat op) (b + 2) (M b 7).toNat kd) (b + 3) (M b 7).toNat nm) b 7 (M b 7 + 1) := by
  unfold wrM
  rw [if_pos h]
theorem pcn_up {W : Nat → Int} {n : Nat} {t : Int} {W' : Nat → Int} (h1 : ∀ i, i < n → W' i = W i) (h2 : W' n = t) : pcn W' (n + 1) = pcn W n + (if t = 18 then 1 else 0) := by
  rw [pcn_u, pcn_c h1, h2]
set_option maxHeartbeats 8000000 in
theorem inv_A {b : Nat} (hb : b = 6 ∨ b = 13) {M : zM} (hp : pInv b M) (hd : M 1 3 = 4) (hf : (stpA b M).1 = 0) : pInv b (stpA b M).2 := by
  have hd4 : 4 ≤ M 1 3 := by omega
  obtain ⟨w72, cn⟩ := pIn5_w hp hd4
  obtain ⟨p3, p4, p5, p6, p7, -, hq⟩ := id hp
  obtain ⟨q1, q2, q3, q4, q5, q6, -⟩ := hq hd4
  obtain ⟨W, hW⟩ : ∃ W : Nat, M 1 7 = (W : Int) := ⟨(M 1 7).toNat, by omega⟩
  obtain ⟨O, hO⟩ : ∃ O : Nat, M 1 8 = (O : Int) := ⟨(M 1 8).toNat, by omega⟩
  rw [hW, Int.toNat_natCast, hO] at q6
  have b1 : b ≠ 1 := by omega
  have b4 : b ≠ 4 := by omega
  have b5 : b ≠ 5 := by omega
  have pr := pcn_r (M 4) W
  unfold stpA at hf ⊢
  by_cases g1 : M 2 4 = 18
  · rw [if_pos g1] at hf ⊢
    by_cases g2 : M 1 8 < 8
    · rw [if_pos g2] at hf ⊢
      show pInv b (awM _ 18)
      obtain ⟨N, hN⟩ : ∃ N, N = zup (zup (zup M 1 8 (M 1 8 + 1)) 5 (M 1 8 + 1).toNat 0) 1 10 1 := ⟨_, rfl⟩
      have nW : N 1 7 = (W : Int) := by rw [hN]; simp [zup_q, hW]
      rw [← hN, aw_q (by omega), nW, Int.toNat_natCast]
      have nO : N 1 8 = (O : Int) + 1 := by rw [hN]; simp [zup_q, hO]
      have nb : N b = M b := by rw [hN, zup_ne _ _ _ b1, zup_ne _ _ _ b5, zup_ne _ _ _ b1]
      have ndu : N 1 3 = 4 := by rw [hN]; simp [zup_q, hd]
      have nnm : N 1 10 = 1 := by rw [hN]; simp [zup_q]
      have nwt : N 4 = M 4 := by rw [hN]; rw [zup_ne _ _ _ (by decide), zup_ne _ _ _ (by decide), zup_ne _ _ _ (by decide)]
      have ncm : ∀ i, N 5 i = if i = O + 1 then 0 else M 5 i := fun i => by
        have e : (M 1 8 + 1).toNat = O + 1 := by omega
        rw [hN, e]
        simp [zup_q]
      obtain ⟨M2, hM2⟩ : ∃ M2, M2 = zup (zup N 4 W 18) 1 7 ((W : Int) + 1) := ⟨_, rfl⟩
      rw [← hM2]
      have mW : M2 1 7 = (W : Int) + 1 := by rw [hM2]; simp [zup_q]
      have mO : M2 1 8 = (O : Int) + 1 := by rw [hM2]; simp [zup_q, nO]
      have mb : M2 b = M b := by rw [hM2, zup_ne _ _ _ b1, zup_ne _ _ _ b4, nb]
      have md : M2 1 3 = 4 := by rw [hM2]; simp [zup_q, ndu]
      have mn : M2 1 10 = 1 := by rw [hM2]; simp [zup_q, nnm]
      have mc : M2 5 = N 5 := by rw [hM2, zup_ne _ _ _ (by decide), zup_ne _ _ _ (by decide)]
      have mw : ∀ i, M2 4 i = if i = W then 18 else M 4 i := fun i => by
        rw [hM2, zup_ne _ _ _ (by decide), zup_q, nwt]
        simp
      refine pInv_hi hp hd4 (by omega) (by rw [mb]) (by rw [mb]) (by rw [mb]; omega) (by rw [mb]; omega) (by omega) (by omega) (Or.inr mn) (fun i hi => ?_) (fun i hi => ?_) ?_ ?_
      · rw [mc, ncm]
        split
        · exact Or.inl rfl
        · exact q4 i (by omega)
      · rw [mw]
        split
        · omega
        · exact q5 i (by omega)
      · rw [mW, show ((W : Int) + 1).toNat = W + 1 by omega, pcn_up (W := M 4) (t := 18) (fun i hi => by rw [mw, if_neg (by omega)]) (by rw [mw, if_pos rfl]), q6, mO]
        rfl
      · rw [mW, mO, mb, md]
        rw [if_neg (by omega)]
        omega
    · rw [if_neg g2] at hf
      simp at hf
  · rw [if_neg g1] at hf ⊢
    have cf : ∀ M2 : zM, ckF M2 b = 0 → M2 b 9 + 1 ≤ 64 := fun M2 h => by
      unfold ckF at h
      split at h <;> omega
    by_cases g2 : M 2 4 = 16
    · rw [if_pos g2] at hf ⊢
      by_cases g3 : 99999 < M 2 6
      · rw [if_pos g3] at hf
        simp at hf
      · rw [if_neg g3] at hf ⊢
        show pInv b (ckM _ b)
        have hf := cf _ hf
        rw [zup_ne _ _ _ b1, wrM_b (by decide)] at hf
        rw [wr_q (by omega)]
        unfold ckM
        obtain ⟨M2, hM2⟩ : ∃ M2, M2 = zup (zup (zup (zup (zup (zup M (b + 1) (M b 7).toNat 16) (b + 2) (M b 7).toNat 0) (b + 3) (M b 7).toNat (M 2 6)) b 7 (M b 7 + 1)) 1 3 5) b 9 (zup (zup (zup (zup (zup M (b + 1) (M b 7).toNat 16) (b + 2) (M b 7).toNat 0) (b + 3) (M b 7).toNat (M 2 6)) b 7 (M b 7 + 1)) 1 3 5 b 9 + 1) := ⟨_, rfl⟩
        rw [← hM2]
        have hk : M2 b 9 = M b 9 + 1 := by rw [hM2]; simp [zup_q, b1]
        have hs : M2 b 7 = M b 7 + 1 := by rw [hM2]; simp [zup_q, b1]
        have hl : M2 b 8 = M b 8 := by rw [hM2]; simp [zup_q, b1]
        have ht : M2 b 11 = M b 11 := by rw [hM2]; simp [zup_q, b1]
        have n1 : ∀ j, j ≠ 3 → M2 1 j = M 1 j := fun j hj => by
          rw [hM2, zup_ne _ _ _ (by omega), zup_q, if_neg (fun q => hj q.2), zup_ne _ _ _ (by omega), zup_ne _ _ _ (by omega), zup_ne _ _ _ (by omega), zup_ne _ _ _ (by omega)]
        have nd : M2 1 3 = 5 := by rw [hM2, zup_ne _ _ _ (by omega), zup_q, if_pos ⟨rfl, rfl⟩]
        have n4 : M2 4 = M 4 := by rw [hM2, zup_ne _ _ _ (by omega), zup_ne _ _ _ (by omega), zup_ne _ _ _ (by omega), zup_ne _ _ _ (by omega), zup_ne _ _ _ (by omega), zup_ne _ _ _ (by omega)]
        have n5 : M2 5 = M 5 := by rw [hM2, zup_ne _ _ _ (by omega), zup_ne _ _ _ (by omega), zup_ne _ _ _ (by omega), zup_ne _ _ _ (by omega), zup_ne _ _ _ (by omega), zup_ne _ _ _ (by omega)]
        refine pInv_hi hp hd4 (by omega) hl ht (by omega) (by omega) (by rw [n1 _ (by decide)]; omega) (by rw [n1 _ (by decide)]; omega) (by rw [n1 _ (by decide)]; exact q3) (fun i hi => ?_) (fun i hi => ?_) ?_ ?_
        · rw [n1 _ (by decide)] at hi; rw [n5]; exact q4 i hi
        · rw [n1 _ (by decide)] at hi; rw [n4]; exact q5 i hi
        · rw [n1 _ (by decide), n4, n1 _ (by decide), hW, Int.toNat_natCast, hO]; exact q6
        · rw [n1 _ (by decide), n1 _ (by decide), hk, hs, nd, if_neg (by omega)]
          omega
    · rw [if_neg g2] at hf ⊢
      by_cases g3 : 5 ≤ M 2 4 ∧ M 2 4 ≤ 11
      · rw [if_pos g3] at hf ⊢
        show pInv b (ckM _ b)
        have hf := cf _ hf
        rw [zup_ne _ _ _ b1, zup_ne _ _ _ b1] at hf
        unfold ckM
        obtain ⟨M2, hM2⟩ : ∃ M2, M2 = zup (zup (zup M 1 11 (M 2 4)) 1 3 6) b 9 (zup (zup M 1 11 (M 2 4)) 1 3 6 b 9 + 1) := ⟨_, rfl⟩
        rw [← hM2]
        have hk : M2 b 9 = M b 9 + 1 := by rw [hM2]; simp [zup_q, b1]
        have hs : M2 b 7 = M b 7 := by rw [hM2]; simp [zup_q, b1]
        have hl : M2 b 8 = M b 8 := by rw [hM2]; simp [zup_q, b1]
        have ht : M2 b 11 = M b 11 := by rw [hM2]; simp [zup_q, b1]
        have n1 : ∀ j, j ≠ 3 → j ≠ 11 → M2 1 j = M 1 j := fun j hj hj2 => by
          rw [hM2, zup_ne _ _ _ (by omega), zup_q, if_neg (fun q => hj q.2), zup_q, if_neg (fun q => hj2 q.2)]
        have nd : M2 1 3 = 6 := by rw [hM2, zup_ne _ _ _ (by omega), zup_q, if_pos ⟨rfl, rfl⟩]
        have n4 : M2 4 = M 4 := by rw [hM2, zup_ne _ _ _ (by omega), zup_ne _ _ _ (by decide), zup_ne _ _ _ (by decide)]
        have n5 : M2 5 = M 5 := by rw [hM2, zup_ne _ _ _ (by omega), zup_ne _ _ _ (by decide), zup_ne _ _ _ (by decide)]
        refine pInv_hi hp hd4 (by omega) hl ht (by omega) (by omega) (by rw [n1 _ (by decide) (by decide)]; omega) (by rw [n1 _ (by decide) (by decide)]; omega) (by rw [n1 _ (by decide) (by decide)]; exact q3) (fun i hi => ?_) (fun i hi => ?_) ?_ ?_
        · rw [n1 _ (by decide) (by decide)] at hi; rw [n5]; exact q4 i hi
        · rw [n1 _ (by decide) (by decide)] at hi; rw [n4]; exact q5 i hi
        · rw [n1 _ (by decide) (by decide), n4, n1 _ (by decide) (by decide), hW, Int.toNat_natCast, hO]; exact q6
        · rw [n1 _ (by decide) (by decide), n1 _ (by decide) (by decide), hk, hs, nd, if_pos (by omega)]
          omega
      · rw [if_neg g3] at hf ⊢
        have one : ∀ (N : zM) (t : Int), t ≠ 18 → (0 ≤ t ∧ t ≤ 33) → N b = M b → N 4 = M 4 → N 5 = M 5 → (∀ j, j ≠ 10 → N 1 j = M 1 j) → (N 1 10 = 0 ∨ N 1 10 = 1) → ckF (awM N t) b = 0 → pInv b (ckM (awM N t) b) := by
          intro N t t18 tr nb nwt ncm n1 nnm hf
          have hf := cf _ hf
          have nW : N 1 7 = (W : Int) := by rw [n1 _ (by decide)]; exact hW
          have w2 : N 1 7 < 72 := by
            rw [aw_q (by
              by_cases q : N 1 7 < 72
              · exact q
              · exfalso
                unfold awM at hf
                rw [if_neg q, nb] at hf
                omega)] at hf
            rw [zup_ne _ _ _ b1, zup_ne _ _ _ b4, nb] at hf
            omega
          rw [aw_q w2] at hf ⊢
          rw [zup_ne _ _ _ b1, zup_ne _ _ _ b4, nb] at hf
          unfold ckM
          rw [nW, Int.toNat_natCast]
          obtain ⟨M2, hM2⟩ : ∃ M2, M2 = zup (zup (zup N 4 W t) 1 7 ((W : Int) + 1)) b 9 (zup (zup N 4 W t) 1 7 ((W : Int) + 1) b 9 + 1) := ⟨_, rfl⟩
          rw [← hM2]
          have hk : M2 b 9 = M b 9 + 1 := by rw [hM2, zup_q, if_pos ⟨rfl, rfl⟩, zup_ne _ _ _ b1, zup_ne _ _ _ b4, nb]
          have hb' : ∀ j, j ≠ 9 → M2 b j = M b j := fun j hj => by rw [hM2, zup_q, if_neg (fun q => hj q.2), zup_ne _ _ _ b1, zup_ne _ _ _ b4, nb]
          have m1 : ∀ j, j ≠ 7 → j ≠ 10 → M2 1 j = M 1 j := fun j hj hj2 => by
            rw [hM2, zup_ne _ _ _ (by omega), zup_q, if_neg (fun q => hj q.2), zup_ne _ _ _ (by decide), n1 j hj2]
          have mW : M2 1 7 = (W : Int) + 1 := by rw [hM2, zup_ne _ _ _ (by omega), zup_q, if_pos ⟨rfl, rfl⟩]
          have mn : M2 1 10 = N 1 10 := by rw [hM2, zup_ne _ _ _ (by omega), zup_q, if_neg (by decide), zup_ne _ _ _ (by decide)]
          have mw : ∀ i, M2 4 i = if i = W then t else M 4 i := fun i => by
            rw [hM2, zup_ne _ _ _ (by omega), zup_ne _ _ _ (by decide), zup_q, nwt]
            simp
          have mc : M2 5 = M 5 := by rw [hM2, zup_ne _ _ _ (by omega), zup_ne _ _ _ (by decide), zup_ne _ _ _ (by decide), ncm]
          have mO : M2 1 8 = (O : Int) := by rw [m1 _ (by decide) (by decide)]; exact hO
          have md : M2 1 3 = 4 := by rw [m1 _ (by decide) (by decide)]; exact hd
          have ms := hb' 7 (by decide)
          refine pInv_hi hp hd4 (by omega) (hb' _ (by decide)) (hb' _ (by decide)) (by omega) (by omega) (by omega) (by omega) (by rw [mn]; exact nnm) (fun i hi => ?_) (fun i hi => ?_) ?_ ?_
          · rw [mc]; exact q4 i (by omega)
          · rw [mw]
            split
            · exact tr
            · exact q5 i (by omega)
          · rw [mW, show ((W : Int) + 1).toNat = W + 1 by omega, pcn_up (W := M 4) (t := t) (fun i hi => by rw [mw, if_neg (by omega)]) (by rw [mw, if_pos rfl]), q6, mO, if_neg t18]
            omega
          · rw [mW, mO, ms, hk, md, if_neg (by omega)]
            omega
        by_cases g4 : M 2 4 = 22
        · rw [if_pos g4] at hf ⊢
          exact one _ 31 (by decide) (by omega) (zup_ne _ _ _ b1) (zup_ne _ _ _ (by decide)) (zup_ne _ _ _ (by decide)) (fun j hj => by rw [zup_q, if_neg (fun q => hj q.2)]) (by rw [zup_q, if_pos ⟨rfl, rfl⟩]; exact Or.inl rfl) hf
        · rw [if_neg g4] at hf ⊢
          by_cases g5 : M 2 4 = 4 ∧ M 1 10 ≠ 0
          · rw [if_pos g5] at hf ⊢
            exact one _ 4 (by decide) (by omega) rfl rfl rfl (fun _ _ => rfl) q3 hf
          · rw [if_neg g5] at hf
            simp at hf
