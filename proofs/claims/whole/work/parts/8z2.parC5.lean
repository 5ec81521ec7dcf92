/-! the class's reader of rules: it keeps within its cells, on -/
set_option maxHeartbeats 8000000 in
theorem inv_B {b : Nat} (hb : b = 6 ∨ b = 13) {M : zM} (hp : pInv b M) (ht : tkR M) (hd : M 1 3 = 5) (hf : (stpB b M).1 = 0) : pInv b (stpB b M).2 := by
  have hd4 : 4 ≤ M 1 3 := by omega
  obtain ⟨w72, cn⟩ := pIn5_w hp hd4
  obtain ⟨p3, p4, p5, p6, p7, -, hq⟩ := id hp
  obtain ⟨q1, q2, q3, q4, q5, q6, -⟩ := hq hd4
  obtain ⟨t1, t2⟩ := ht
  obtain ⟨W, hW⟩ : ∃ W : Nat, M 1 7 = (W : Int) := ⟨(M 1 7).toNat, by omega⟩
  have b1 : b ≠ 1 := by omega
  have b4 : b ≠ 4 := by omega
  have b5 : b ≠ 5 := by omega
  rw [hW, Int.toNat_natCast] at q6
  have pr := pcn_r (M 4) W
  obtain ⟨i1, i2, i3, i4, i5⟩ := stl_n hb (least := 1) W M
  obtain ⟨k', j1, j2, j3, j4, j5, j6⟩ := stl_k hb (least := 1) (by decide) W M hW (by omega)
  have iS := i4 p3
  have prk := pcn_r (M 4) k'
  unfold stpB at hf ⊢
  rw [hW, Int.toNat_natCast] at hf ⊢
  obtain ⟨N, hN⟩ : ∃ N, N = stlM b 1 W M := ⟨_, rfl⟩
  rw [← hN] at i1 i2 i3 iS j1 j3 j5 hf ⊢
  by_cases g1 : M 2 4 = 17 ∧ M 1 8 = 0
  · rw [if_pos g1] at hf ⊢
    obtain ⟨M1, hM1⟩ : ∃ M1, M1 = enM N b (N 1 5) := ⟨_, rfl⟩
    rw [← hM1]
    have m1b : ∀ j, j ≠ 8 → M1 b j = N b j := fun j hj => by
      rw [hM1]
      unfold enM
      split
      · rw [zup_q, if_neg (fun q => hj q.2), zup_ne _ _ _ (by omega), zup_ne _ _ _ (by omega)]
      · rfl
    have m1l : 0 ≤ M1 b 8 ∧ M1 b 8 ≤ 12 := by
      rw [hM1]
      unfold enM
      have := i3 8 (by decide)
      split
      · rw [zup_q, if_pos ⟨rfl, rfl⟩]
        omega
      · omega
    obtain ⟨M2, hM2⟩ : ∃ M2, M2 = zup (zup M1 1 4 (M1 1 4 + 1)) 1 3 0 := ⟨_, rfl⟩
    show pInv b (zup (zup M1 1 4 (M1 1 4 + 1)) 1 3 0)
    rw [← hM2]
    have mb : M2 b = M1 b := by rw [hM2, zup_ne _ _ _ b1, zup_ne _ _ _ b1]
    have md : M2 1 3 = 0 := by rw [hM2, zup_q, if_pos ⟨rfl, rfl⟩]
    have s2 : M2 b 7 = N b 7 := by rw [mb, m1b _ (by decide)]
    have k2 : M2 b 9 = M b 9 := by rw [mb, m1b _ (by decide), i3 _ (by decide)]
    have t2 : M2 b 11 = M b 11 := by rw [mb, m1b _ (by decide), i3 _ (by decide)]
    exact ⟨by omega, by rw [mb]; exact m1l, by omega, by omega, by omega, fun _ => by omega, fun q => by omega⟩
  · rw [if_neg g1] at hf ⊢
    by_cases g2 : M 2 4 = 19 ∧ 0 < M 1 8
    · rw [if_pos g2] at hf ⊢
      show pInv b (zup (zup N 1 7 (N 1 7 - 1)) 1 8 (N 1 8 - 1))
      have k0 : k' ≠ 0 := fun q => by
        rw [q] at j4
        have : pcn (M 4) 0 = 0 := rfl
        omega
      obtain ⟨k, rfl⟩ : ∃ k, k' = k + 1 := ⟨k' - 1, by omega⟩
      have top : M 4 k = 18 := stre0 (by rcases j6 with q | q; omega; exact q)
      have pk : pcn (M 4) (k + 1) = pcn (M 4) k + 1 := by
        show pcn (M 4) k + (if M 4 k = 18 then 1 else 0) = _
        rw [if_pos top]
      obtain ⟨M2, hM2⟩ : ∃ M2, M2 = zup (zup N 1 7 (N 1 7 - 1)) 1 8 (N 1 8 - 1) := ⟨_, rfl⟩
      rw [← hM2]
      have mW : M2 1 7 = (k : Int) := by rw [hM2, zup_q, if_neg (by decide), zup_q, if_pos ⟨rfl, rfl⟩, j1]; omega
      have mO : M2 1 8 = M 1 8 - 1 := by rw [hM2, zup_q, if_pos ⟨rfl, rfl⟩, i2 _ (by decide)]
      have m1 : ∀ j, j ≠ 7 → j ≠ 8 → M2 1 j = M 1 j := fun j hj hj2 => by
        rw [hM2, zup_q, if_neg (fun q => hj2 q.2), zup_q, if_neg (fun q => hj q.2), i2 j hj]
      have mb : M2 b = N b := by rw [hM2, zup_ne _ _ _ b1, zup_ne _ _ _ b1]
      have mw : M2 4 = M 4 := by rw [hM2, zup_ne _ _ _ (by decide), zup_ne _ _ _ (by decide), j3]
      have mc : M2 5 = M 5 := by rw [hM2, zup_ne _ _ _ (by decide), zup_ne _ _ _ (by decide), i1 _ (by decide) (by omega)]
      have md : M2 1 3 = 5 := by rw [m1 _ (by decide) (by decide)]; exact hd
      have mk : M2 b 9 = M b 9 := by rw [mb, i3 _ (by decide)]
      refine pInv_hi hp hd4 (by omega) (by rw [mb, i3 _ (by decide)]) (by rw [mb, i3 _ (by decide)]) (by rw [mb]; omega) (by omega) (by omega) (by omega) (by rw [m1 _ (by decide) (by decide)]; exact q3) (fun i hi => ?_) (fun i hi => ?_) ?_ ?_
      · rw [mc]; exact q4 i (by omega)
      · rw [mw]; exact q5 i (by omega)
      · rw [mw, mW, Int.toNat_natCast, mO]; omega
      · rw [mW, mO, mk, md, mb, if_neg (by omega)]
        omega
    · rw [if_neg g2] at hf ⊢
      by_cases g3 : sgBad M
      · rw [if_pos g3] at hf
        simp at hf
      · rw [if_neg g3] at hf ⊢
        show pInv b (ckM (sgM b M) b)
        have hf : ckF (sgM b M) b = 0 := hf
        have kn : (sgM b M) b 9 + 1 ≤ 64 := by
          unfold ckF at hf
          split at hf <;> omega
        obtain ⟨tk, htk⟩ : ∃ tk, tk = M 2 4 := ⟨_, rfl⟩
        have g3' : (tk = 2 ∨ tk = 3) ∨ (21 ≤ tk ∧ tk ≤ 24) ∨ (25 ≤ tk ∧ tk ≤ 30) := by
          rw [htk]
          by_cases q : (M 2 4 = 2 ∨ M 2 4 = 3) ∨ (21 ≤ M 2 4 ∧ M 2 4 ≤ 24) ∨ (25 ≤ M 2 4 ∧ M 2 4 ≤ 30)
          · exact q
          · exact absurd (show sgBad M from ⟨fun q4 => q (Or.inl q4), fun q4 => q (Or.inr (Or.inl q4)), Or.inl (fun q4 => q (Or.inr (Or.inr q4)))⟩) g3
        have sr : 1 ≤ stre tk := by
          have h0 := (stre_r tk).1
          by_cases q : stre tk < 1
          · have := stre0 q
            omega
          · omega
        obtain ⟨M0, hM0⟩ : ∃ M0, M0 = (if 21 ≤ tk ∧ tk ≤ 24 then M else zup M 5 (M 1 8).toNat (if 25 ≤ tk ∧ tk ≤ 30 then 1 else 0)) := ⟨_, rfl⟩
        have n0 : ∀ x, x ≠ 5 → M0 x = M x := fun x hx => by
          rw [hM0]
          split
          · rfl
          · rw [zup_ne _ _ _ hx]
        have c0 : ∀ i : Nat, (i : Int) ≤ M 1 8 → M0 5 i = 0 ∨ M0 5 i = 1 := fun i hi => by
          rw [hM0]
          split
          · exact q4 i hi
          · rw [zup_q]
            split
            · split
              · exact Or.inr rfl
              · exact Or.inl rfl
            · exact q4 i hi
        have hW0 : M0 1 7 = (W : Int) := by rw [n0 1 (by decide)]; exact hW
        obtain ⟨a1, a2, a3, a4, a5⟩ := stl_n hb (least := stre tk) W M0
        obtain ⟨u, c1, c2, c3, c4, c5, c6⟩ := stl_k hb (least := stre tk) sr W M0 hW0 (by rw [n0 4 (by decide), n0 b b5]; omega)
        have aS := a4 (by rw [n0 b b5]; exact p3)
        rw [n0 4 (by decide)] at c3 c4 c6
        rw [n0 b b5] at c5
        obtain ⟨N2, hN2⟩ : ∃ N2, N2 = stlM b (stre tk) W M0 := ⟨_, rfl⟩
        rw [← hN2] at a1 a2 a3 aS c1 c3 c5
        have eS : sgM b M = zup (zup (awM N2 tk) 1 10 (if tk = 2 ∨ tk = 3 then 1 else 0)) 1 3 4 := by
          unfold sgM
          rw [← htk, ← hM0, hW, Int.toNat_natCast, ← hN2]
        have pru := pcn_r (M 4) u
        have a3k := a3 9 (by decide)
        rw [n0 b b5] at a3k
        have ew : awM N2 tk b = N2 b := by
          unfold awM
          split
          · rw [zup_ne _ _ _ b1, zup_ne _ _ _ b4]
          · rfl
        have kn0 : M b 9 + 1 ≤ 64 := by
          rw [eS, zup_ne _ _ _ b1, zup_ne _ _ _ b1, ew, a3k] at kn
          exact kn
        clear kn
        have uw : u < 72 := by omega
        rw [eS]
        rw [aw_q (by omega), c1, Int.toNat_natCast]
        unfold ckM
        obtain ⟨M2, hM2⟩ : ∃ M2, M2 = zup (zup (zup (zup (zup N2 4 u tk) 1 7 ((u : Int) + 1)) 1 10 (if tk = 2 ∨ tk = 3 then 1 else 0)) 1 3 4) b 9 (zup (zup (zup (zup N2 4 u tk) 1 7 ((u : Int) + 1)) 1 10 (if tk = 2 ∨ tk = 3 then 1 else 0)) 1 3 4 b 9 + 1) := ⟨_, rfl⟩
        rw [← hM2]
        have hk : M2 b 9 = M b 9 + 1 := by rw [hM2, zup_q, if_pos ⟨rfl, rfl⟩, zup_ne _ _ _ b1, zup_ne _ _ _ b1, zup_ne _ _ _ b1, zup_ne _ _ _ b4, a3k]
        have hb' : ∀ j, j ≠ 9 → M2 b j = N2 b j := fun j hj => by rw [hM2, zup_q, if_neg (fun q => hj q.2), zup_ne _ _ _ b1, zup_ne _ _ _ b1, zup_ne _ _ _ b1, zup_ne _ _ _ b4]
        have mW : M2 1 7 = (u : Int) + 1 := by rw [hM2, zup_ne _ _ _ (by omega), zup_q, if_neg (by decide), zup_q, if_neg (by decide), zup_q, if_pos ⟨rfl, rfl⟩]
        have mn : M2 1 10 = (if tk = 2 ∨ tk = 3 then 1 else 0) := by rw [hM2, zup_ne _ _ _ (by omega), zup_q, if_neg (by decide), zup_q, if_pos ⟨rfl, rfl⟩]
        have md : M2 1 3 = 4 := by rw [hM2, zup_ne _ _ _ (by omega), zup_q, if_pos ⟨rfl, rfl⟩]
        have mO : M2 1 8 = M 1 8 := by
          rw [hM2, zup_ne _ _ _ (by omega), zup_q, if_neg (by decide), zup_q, if_neg (by decide), zup_q, if_neg (by decide), zup_ne _ _ _ (by decide), a2 _ (by decide), n0 1 (by decide)]
        have mw : ∀ i, M2 4 i = if i = u then tk else M 4 i := fun i => by
          rw [hM2, zup_ne _ _ _ (by omega), zup_ne _ _ _ (by decide), zup_ne _ _ _ (by decide), zup_ne _ _ _ (by decide), zup_q, c3]
          simp
        have mc : M2 5 = M0 5 := by
          rw [hM2, zup_ne _ _ _ (by omega), zup_ne _ _ _ (by decide), zup_ne _ _ _ (by decide), zup_ne _ _ _ (by decide), zup_ne _ _ _ (by decide), a1 _ (by decide) (by omega)]
        have ms := hb' 7 (by decide)
        refine pInv_hi hp hd4 (by omega) (by rw [hb' _ (by decide), a3 _ (by decide), n0 b b5]) (by rw [hb' _ (by decide), a3 _ (by decide), n0 b b5]) (by omega) (by omega) (by omega) (by omega) (by rw [mn]; split; exact Or.inr rfl; exact Or.inl rfl) (fun i hi => ?_) (fun i hi => ?_) ?_ ?_
        · rw [mc]; exact c0 i (by omega)
        · rw [mw]
          split
          · rw [htk]; exact t1
          · exact q5 i (by omega)
        · rw [mW, show ((u : Int) + 1).toNat = u + 1 by omega, pcn_up (W := M 4) (t := tk) (fun i hi => by rw [mw, if_neg (by omega)]) (by rw [mw, if_pos rfl]), c4, q6, mO, if_neg (by omega)]
          omega
        · rw [mW, mO, ms, hk, md, if_neg (by omega)]
          omega
set_option maxHeartbeats 4000000 in
theorem inv_W {b : Nat} (hb : b = 6 ∨ b = 13) {M : zM} (hp : pInv b M) (hd : 6 ≤ M 1 3) (hf : (stpW b M).1 = 0) : pInv b (stpW b M).2 := by
  have hd4 : 4 ≤ M 1 3 := by omega
  obtain ⟨p3, p4, p5, p6, p7, -, hq⟩ := id hp
  obtain ⟨q1, q2, q3, q4, q5, q6, q7⟩ := hq hd4
  have b1 : b ≠ 1 := by omega
  have b4 : b ≠ 4 := by omega
  have b5 : b ≠ 5 := by omega
  have pr := pcn_r (M 4) (M 1 7).toNat
  have nx : ∀ M2 : zM, M2 b = M b → (∀ j, j ≠ 3 → j ≠ 12 → M2 1 j = M 1 j) → M2 4 = M 4 → M2 5 = M 5 → (4 ≤ M2 1 3 ∧ M2 1 3 ≤ 10) → ((6 ≤ M2 1 3 ∧ M2 1 3 ≤ 9) → (6 ≤ M 1 3 ∧ M 1 3 ≤ 9)) → pInv b M2 := by
    intro M2 mb m1 mw mc md mi
    refine pInv_hi hp hd4 md (by rw [mb]) (by rw [mb]) (by rw [mb]; omega) (by rw [mb]; omega) (by rw [m1 _ (by decide) (by decide)]; omega) (by rw [m1 _ (by decide) (by decide)]; omega) (by rw [m1 _ (by decide) (by decide)]; exact q3) (fun i hi => ?_) (fun i hi => ?_) ?_ ?_
    · rw [m1 _ (by decide) (by decide)] at hi; rw [mc]; exact q4 i hi
    · rw [m1 _ (by decide) (by decide)] at hi; rw [mw]; exact q5 i hi
    · rw [mw, m1 _ (by decide) (by decide), m1 _ (by decide) (by decide)]; exact q6
    · rw [m1 _ (by decide) (by decide), m1 _ (by decide) (by decide), mb]
      by_cases q : 6 ≤ M2 1 3 ∧ M2 1 3 ≤ 9
      · rw [if_pos q]
        rw [if_pos (mi q)] at q7
        exact q7
      · rw [if_neg q]
        split at q7 <;> omega
  unfold stpW at hf ⊢
  by_cases g6 : M 1 3 = 6
  · rw [if_pos g6]
    dsimp only
    exact nx _ (zup_ne _ _ _ b1) (fun j h1 h2 => by rw [zup_q, if_neg (fun q => h1 q.2)]) (zup_ne _ _ _ (by decide)) (zup_ne _ _ _ (by decide)) (by rw [zup_q, if_pos ⟨rfl, rfl⟩]; omega) (fun _ => by omega)
  · rw [if_neg g6] at hf ⊢
    by_cases g7 : M 1 3 = 7
    · rw [if_pos g7]
      dsimp only
      exact nx _ (by rw [zup_ne _ _ _ b1, zup_ne _ _ _ b1]) (fun j h1 h2 => by rw [zup_q, if_neg (fun q => h2 q.2), zup_q, if_neg (fun q => h1 q.2)]) (by rw [zup_ne _ _ _ (by decide), zup_ne _ _ _ (by decide)]) (by rw [zup_ne _ _ _ (by decide), zup_ne _ _ _ (by decide)]) (by rw [zup_q, if_neg (by decide), zup_q, if_pos ⟨rfl, rfl⟩]; omega) (fun _ => by omega)
    · rw [if_neg g7] at hf ⊢
      by_cases g8 : M 1 3 = 8
      · rw [if_pos g8]
        dsimp only
        exact nx _ (zup_ne _ _ _ b1) (fun j h1 h2 => by rw [zup_q, if_neg (fun q => h1 q.2)]) (zup_ne _ _ _ (by decide)) (zup_ne _ _ _ (by decide)) (by rw [zup_q, if_pos ⟨rfl, rfl⟩]; omega) (fun _ => by omega)
      · rw [if_neg g8] at hf ⊢
        by_cases g9 : M 1 3 = 9
        · rw [if_pos g9]
          show pInv b (wrM _ b _ _ _)
          rw [if_pos (by omega)] at q7
          rw [wr_q (by rw [zup_ne _ _ _ b1]; omega), zup_ne _ _ _ b1]
          obtain ⟨M2, hM2⟩ : ∃ M2, M2 = zup (zup (zup (zup (zup M 1 3 10) (b + 1) (M b 7).toNat (M 1 11)) (b + 2) (M b 7).toNat (M 1 12)) (b + 3) (M b 7).toNat (M 2 6)) b 7 (M b 7 + 1) := ⟨_, rfl⟩
          rw [← hM2]
          have ms : M2 b 7 = M b 7 + 1 := by rw [hM2, zup_q, if_pos ⟨rfl, rfl⟩]
          have mb : ∀ j, j ≠ 7 → M2 b j = M b j := fun j hj => by rw [hM2, zup_q, if_neg (fun q => hj q.2), zup_ne _ _ _ (by omega), zup_ne _ _ _ (by omega), zup_ne _ _ _ (by omega), zup_ne _ _ _ b1]
          have m1 : ∀ j, j ≠ 3 → M2 1 j = M 1 j := fun j hj => by rw [hM2, zup_ne _ _ _ (by omega), zup_ne _ _ _ (by omega), zup_ne _ _ _ (by omega), zup_ne _ _ _ (by omega), zup_q, if_neg (fun q => hj q.2)]
          have md : M2 1 3 = 10 := by rw [hM2, zup_ne _ _ _ (by omega), zup_ne _ _ _ (by omega), zup_ne _ _ _ (by omega), zup_ne _ _ _ (by omega), zup_q, if_pos ⟨rfl, rfl⟩]
          have mw : M2 4 = M 4 := by rw [hM2, zup_ne _ _ _ (by omega), zup_ne _ _ _ (by omega), zup_ne _ _ _ (by omega), zup_ne _ _ _ (by omega), zup_ne _ _ _ (by decide)]
          have mc : M2 5 = M 5 := by rw [hM2, zup_ne _ _ _ (by omega), zup_ne _ _ _ (by omega), zup_ne _ _ _ (by omega), zup_ne _ _ _ (by omega), zup_ne _ _ _ (by decide)]
          have mk := mb 9 (by decide)
          refine pInv_hi hp hd4 (by omega) (mb _ (by decide)) (mb _ (by decide)) (by omega) (by omega) (by rw [m1 _ (by decide)]; omega) (by rw [m1 _ (by decide)]; omega) (by rw [m1 _ (by decide)]; exact q3) (fun i hi => ?_) (fun i hi => ?_) ?_ ?_
          · rw [m1 _ (by decide)] at hi; rw [mc]; exact q4 i hi
          · rw [m1 _ (by decide)] at hi; rw [mw]; exact q5 i hi
          · rw [mw, m1 _ (by decide), m1 _ (by decide)]; exact q6
          · rw [m1 _ (by decide), m1 _ (by decide), ms, mk, md, if_neg (by omega)]
            omega
        · rw [if_neg g9]
          dsimp only
          exact nx _ (zup_ne _ _ _ b1) (fun j h1 h2 => by rw [zup_q, if_neg (fun q => h1 q.2)]) (zup_ne _ _ _ (by decide)) (zup_ne _ _ _ (by decide)) (by rw [zup_q, if_pos ⟨rfl, rfl⟩]; omega) (fun q => by rw [zup_q, if_pos ⟨rfl, rfl⟩] at q; omega)
set_option maxHeartbeats 4000000 in
theorem inv_step {b : Nat} (hb : b = 6 ∨ b = 13) {M : zM} (hp : pInv b M) (ht : tkR M) (hf : (stpM b M).1 = 0) : pInv b (stpM b M).2 := by
  obtain ⟨p3, p4, p5, p6, p7, p8, -⟩ := id hp
  have b1 : b ≠ 1 := by omega
  have b5 : b ≠ 5 := by omega
  unfold stpM at hf ⊢
  by_cases g0 : M 1 3 = 0
  · rw [if_pos g0] at hf ⊢
    by_cases h0 : M 2 4 = 0
    · rw [if_pos h0]
      dsimp only
      exact pInv_lo hp (by omega) (by rw [zup_q, if_pos ⟨rfl, rfl⟩]; omega) (by rw [zup_ne _ _ _ b1]) (by rw [zup_ne _ _ _ b1]) (by rw [zup_ne _ _ _ b1]) (by rw [zup_ne _ _ _ b1]; exact p7)
    · rw [if_neg h0] at hf ⊢
      by_cases h1 : M 2 4 = 1
      · rw [if_pos h1]
        dsimp only
        exact pInv_lo hp (by omega) (by rw [zup_q, if_pos ⟨rfl, rfl⟩]; omega) (by rw [zup_ne _ _ _ b1]) (by rw [zup_ne _ _ _ b1]) (by rw [zup_ne _ _ _ b1]) (by rw [zup_ne _ _ _ b1]; exact p7)
      · rw [if_neg h1] at hf
        simp at hf
  · rw [if_neg g0] at hf ⊢
    by_cases g1 : M 1 3 = 1
    · rw [if_pos g1]
      dsimp only
      refine pInv_lo hp (by omega) (by rw [zup_q, if_pos ⟨rfl, rfl⟩]; omega) ?_ ?_ ?_ (Or.inr ?_)
      · rw [zup_ne _ _ _ b1, zup_q, if_neg (fun q => absurd q.2 (by decide)), zup_q, if_neg (fun q => absurd q.2 (by decide))]
      · rw [zup_ne _ _ _ b1, zup_q, if_neg (fun q => absurd q.2 (by decide)), zup_q, if_neg (fun q => absurd q.2 (by decide))]
      · rw [zup_ne _ _ _ b1, zup_q, if_neg (fun q => absurd q.2 (by decide)), zup_q, if_neg (fun q => absurd q.2 (by decide))]
      · rw [zup_ne _ _ _ b1, zup_q, if_neg (fun q => absurd q.2 (by decide)), zup_q, if_pos ⟨rfl, rfl⟩]
    · rw [if_neg g1] at hf ⊢
      by_cases g2 : M 1 3 = 2
      · rw [if_pos g2]
        dsimp only
        exact pInv_lo hp (by omega) (by rw [zup_q, if_pos ⟨rfl, rfl⟩]; omega) (by rw [zup_ne _ _ _ b1, zup_ne _ _ _ b1]) (by rw [zup_ne _ _ _ b1, zup_ne _ _ _ b1]) (by rw [zup_ne _ _ _ b1, zup_ne _ _ _ b1]) (by rw [zup_ne _ _ _ b1, zup_ne _ _ _ b1]; exact p7)
      · rw [if_neg g2] at hf ⊢
        by_cases g3 : M 1 3 = 3
        · rw [if_pos g3]
          show pInv b (zup (zup (zup (zup (zup (zup M 1 5 (M 2 6)) 1 7 0) 1 8 0) 5 0 0) 1 10 1) 1 3 4)
          obtain ⟨M2, hM2⟩ : ∃ M2, M2 = zup (zup (zup (zup (zup (zup M 1 5 (M 2 6)) 1 7 0) 1 8 0) 5 0 0) 1 10 1) 1 3 4 := ⟨_, rfl⟩
          rw [← hM2]
          have mb : M2 b = M b := by rw [hM2, zup_ne _ _ _ b1, zup_ne _ _ _ b1, zup_ne _ _ _ b5, zup_ne _ _ _ b1, zup_ne _ _ _ b1, zup_ne _ _ _ b1]
          have mW : M2 1 7 = 0 := by rw [hM2]; simp [zup_q]
          have mO : M2 1 8 = 0 := by rw [hM2]; simp [zup_q]
          have mn : M2 1 10 = 1 := by rw [hM2]; simp [zup_q]
          have md : M2 1 3 = 4 := by rw [hM2]; simp [zup_q]
          have mc : M2 5 0 = 0 := by rw [hM2]; simp [zup_q]
          have := p8 (by omega)
          refine ⟨by rw [mb]; exact p3, by rw [mb]; exact p4, by rw [mb]; exact p5, by omega, by rw [mb]; exact p7, fun q => by omega, fun _ => ⟨by omega, by omega, Or.inr mn, fun i hi => ?_, fun i hi => by omega, ?_, ?_⟩⟩
          · have : i = 0 := by omega
            rw [this, mc]
            exact Or.inl rfl
          · rw [mW, mO]; rfl
          · rw [mW, mO, mb, md, if_neg (by omega)]
            omega
        · rw [if_neg g3] at hf ⊢
          by_cases g4 : M 1 3 = 4
          · rw [if_pos g4] at hf ⊢
            exact inv_A hb hp g4 hf
          · rw [if_neg g4] at hf ⊢
            by_cases g5 : M 1 3 = 5
            · rw [if_pos g5] at hf ⊢
              exact inv_B hb hp ht g5 hf
            · rw [if_neg g5] at hf ⊢
              exact inv_W hb hp (by omega) hf
