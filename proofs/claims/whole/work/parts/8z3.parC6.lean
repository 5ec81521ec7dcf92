/-! the class reads the whole text -/
theorem wdC_r : ∀ i : Nat, i < 77 → wdC i ≤ 15 := by decide +kernel
theorem wrT_r (t : Nat → Int) (a b : Nat) (i : Nat) (hi : i ≤ 77) : wrT t a b i = 33 ∨ (0 ≤ wrT t a b i ∧ wrT t a b i ≤ 15) := by
  induction i with
  | zero => exact Or.inl rfl
  | succ i ih =>
    have ih := ih (by omega)
    have := wdC_r i (by omega)
    unfold wrT
    split
    · exact Or.inr (by omega)
    · exact ih
theorem whl_d {p : Int → Bool} {t : Nat → Int} (k a i : Nat) (h1 : a ≤ i) (h2 : i < whl p t k a) : p (t i) = true := by
  induction k generalizing a with
  | zero => exact absurd h2 (by show ¬ i < a; omega)
  | succ k ih =>
    unfold whl at h2
    by_cases q : p (t a) = true
    · rw [if_pos q] at h2
      by_cases q2 : i = a
      · rw [q2]; exact q
      · exact ih (a + 1) (by omega) h2
    · rw [if_neg q] at h2
      omega
theorem sgK_r (c d : Int) : 17 ≤ sgK c d ∧ sgK c d ≤ 33 ∧ sgK c d ≠ 32 := by
  unfold sgK
  repeat' split
  all_goals omega
theorem lx_r {t : Nat → Int} {n a : Nat} (han : a ≤ n) : (a ≤ lxP t n a ∧ lxP t n a ≤ n) ∧ (lxP t n a ≤ lxE t n a ∧ lxE t n a ≤ n) ∧ (0 ≤ lxK t n a ∧ lxK t n a ≤ 33) ∧ (lxK t n a = 32 ↔ n ≤ lxP t n a) ∧ (lxK t n a ≠ 32 → a < lxE t n a) := by
  have pr := wh_r (p := isB) (t := t) han
  obtain ⟨p, hp⟩ : ∃ p, p = lxP t n a := ⟨_, rfl⟩
  have pr : a ≤ p ∧ p ≤ n := by rw [hp]; exact pr
  unfold lxE lxK
  rw [← hp]
  by_cases g1 : n ≤ p
  · rw [if_pos g1, if_pos g1]
    exact ⟨by omega, by omega, by omega, ⟨fun _ => g1, fun _ => rfl⟩, fun q => absurd rfl q⟩
  · rw [if_neg g1, if_neg g1]
    by_cases g2 : isL (t p) = true
    · rw [if_pos g2, if_pos g2]
      have w := wh_r (p := isL) (t := t) (n := n) (a := p + 1) (by omega)
      rw [← wh_s (by omega) g2] at w
      have r := wrT_r t p (wh isL t n p) 77 (Nat.le_refl _)
      exact ⟨by omega, by omega, by omega, ⟨fun q => by omega, fun q => absurd q g1⟩, fun _ => by omega⟩
    · rw [if_neg g2, if_neg g2]
      by_cases g3 : isD (t p) = true
      · rw [if_pos g3, if_pos g3]
        have w := wh_r (p := isD) (t := t) (n := n) (a := p + 1) (by omega)
        rw [← wh_s (by omega) g3] at w
        exact ⟨by omega, by omega, by omega, ⟨fun q => absurd q (by decide), fun q => absurd q g1⟩, fun _ => by omega⟩
      · rw [if_neg g3, if_neg g3]
        have sl : sgL (t p) (byD t n (p + 1)) = 1 ∨ (sgL (t p) (byD t n (p + 1)) = 2 ∧ p + 1 < n) := by
          unfold sgL
          by_cases q : (t p = 60 ∧ (byD t n (p + 1) = 61 ∨ byD t n (p + 1) = 62)) ∨ (t p = 62 ∧ byD t n (p + 1) = 61)
          · rw [if_pos q]
            refine Or.inr ⟨rfl, ?_⟩
            by_cases q2 : p + 1 < n
            · exact q2
            · unfold byD at q
              rw [if_neg q2] at q
              omega
          · rw [if_neg q]
            exact Or.inl rfl
        have sk := sgK_r (t p) (byD t n (p + 1))
        exact ⟨by omega, by omega, by omega, ⟨fun q => absurd q sk.2.2, fun q => absurd q g1⟩, fun _ => by omega⟩
theorem nxM_r (M : zM) (t : Nat → Int) (n a : Nat) : nxM M t n a 2 3 = (lxE t n a : Int) ∧ nxM M t n a 2 4 = lxK t n a ∧ nxM M t n a 2 5 = (lxP t n a : Int) ∧ (∀ x, x ≠ 2 → nxM M t n a x = M x) ∧ (lxK t n a = 16 → nxM M t n a 2 6 = lxN t n a ∧ n > lxP t n a ∧ isD (t (lxP t n a)) = true) := by
  unfold nxM
  obtain ⟨e1, e2, e3, e4, -, -⟩ := tpS_r M (lxE t n a : Nat) (lxK t n a) (lxP t n a : Nat) (if n ≤ lxP t n a then M 2 6 else if isL (t (lxP t n a)) = true then M 2 6 else if isD (t (lxP t n a)) = true then lxN t n a else M 2 6)
  refine ⟨e1, e2, e3, fun x hx => tpS_n _ _ _ _ _ hx, fun q => ?_⟩
  rw [e4]
  unfold lxK at q
  by_cases g1 : n ≤ lxP t n a
  · rw [if_pos g1] at q
    exact absurd q (by decide)
  · rw [if_neg g1] at q ⊢
    by_cases g2 : isL (t (lxP t n a)) = true
    · rw [if_pos g2] at q
      have r := wrT_r t (lxP t n a) (wh isL t n (lxP t n a)) 77 (Nat.le_refl _)
      omega
    · rw [if_neg g2] at q ⊢
      by_cases g3 : isD (t (lxP t n a)) = true
      · rw [if_pos g3]
        exact ⟨rfl, by omega, g3⟩
      · rw [if_neg g3] at q
        have sk := sgK_r (t (lxP t n a)) (byD t n (lxP t n a + 1))
        omega
theorem lxN_r (t : Nat → Int) (n a : Nat) : 0 ≤ lxN t n a ∧ lxN t n a ≤ 1000000 := by
  unfold lxN
  refine nmv_r (fun i hi => ?_)
  unfold wh at hi
  exact whl_d (n - lxP t n a) (lxP t n a) _ (by omega) (by omega)
theorem nx_tk {M : zM} {t : Nat → Int} {n a : Nat} (han : a ≤ n) : tkR (nxM M t n a) := by
  obtain ⟨e1, e2, e3, e4, e5⟩ := nxM_r M t n a
  obtain ⟨-, -, l3, -, -⟩ := lx_r (t := t) han
  refine ⟨by rw [e2]; exact l3, fun q => ?_⟩
  rw [e2] at q
  rw [(e5 q).1]
  exact lxN_r t n a
/-- the end of the text is good at the beginning of a line alone -/
theorem end_bad {b : Nat} {M : zM} (h1 : M 2 4 = 32) (h2 : M 1 3 ≠ 0) : (stpM b M).1 ≠ 0 := by
  have j : ∀ lo hi, jdg M lo hi = 1 := fun lo hi => by unfold jdg; rw [if_neg (by omega)]
  unfold stpM
  rw [if_neg h2]
  split
  · show jdg M 0 24 ≠ 0
    rw [j]; decide
  · split
    · rw [if_neg (by omega)]; simp
    · split
      · show jdg M 1 4 ≠ 0
        rw [j]; decide
      · split
        · unfold stpA
          rw [if_neg (by omega), if_neg (by omega), if_neg (by omega), if_neg (by omega), if_neg (by omega)]
          simp
        · split
          · unfold stpB
            rw [if_neg (by omega), if_neg (by omega), if_pos (show sgBad M from ⟨by omega, by omega, Or.inl (by omega)⟩)]
            simp
          · unfold stpW
            split
            · rw [if_neg (by omega)]; simp
            · split
              · rw [if_neg (by omega)]; simp
              · split
                · rw [if_neg (by omega)]; simp
                · split
                  · show jdg M 1 48 ≠ 0
                    rw [j]; decide
                  · rw [if_neg (by omega)]; simp
/-- lines told, by what is due -/
def pLin (b : Nat) (M : zM) : Prop := (M 1 4 + (if M 1 3 = 2 then 1 else 0) = M b 8 + M b 11) ∧ (M 1 3 = 1 → M b 11 = 0) ∧ (3 ≤ M 1 3 → M b 8 < 12)
def dL (b x j : Nat) : Bool := dS b x j && !((x == 1 && j == 4) || (x == b && [8, 11, 10].contains j))
theorem dL_ok {b : Nat} (hb : b = 6 ∨ b = 13) : okD b (dL b) := by
  rcases hb with rfl | rfl
  · exact ⟨⟨rfl, rfl, rfl, rfl, rfl, rfl, rfl⟩, fun j => rfl, fun j => rfl, fun j => ⟨rfl, rfl, rfl⟩, rfl, rfl⟩
  · exact ⟨⟨rfl, rfl, rfl, rfl, rfl, rfl, rfl⟩, fun j => rfl, fun j => rfl, fun j => ⟨rfl, rfl, rfl⟩, rfl, rfl⟩
theorem dL_n {b : Nat} (hb : b = 6 ∨ b = 13) : dL b 1 4 = false ∧ dL b b 8 = false ∧ dL b b 11 = false ∧ dL b b 10 = false := by
  rcases hb with rfl | rfl <;> exact ⟨rfl, rfl, rfl, rfl⟩
theorem lin_step {b : Nat} (hb : b = 6 ∨ b = 13) {M : zM} (hp : pInv b M) (hl : pLin b M) (hf : (stpM b M).1 = 0) : pLin b (stpM b M).2 := by
  obtain ⟨p3, p4, p5, p6, p7, p8, -⟩ := id hp
  obtain ⟨l1, l2, l3⟩ := hl
  have b1 : b ≠ 1 := by omega
  have b5 : b ≠ 5 := by omega
  have hD := dL_ok hb
  obtain ⟨n1, n2, n3, n4⟩ := dL_n hb
  have same : ∀ M2 : zM, (∀ x j, dL b x j = false → M2 x j = M x j) → 3 ≤ M 1 3 → 3 ≤ M2 1 3 → pLin b M2 := fun M2 f q1 q2 => by
    have e1 := f _ _ n1
    have e2 := f _ _ n2
    have e3 := f _ _ n3
    rw [if_neg (by omega)] at l1
    have l3 := l3 q1
    refine ⟨?_, fun q => by omega, fun _ => by omega⟩
    rw [if_neg (by omega)]
    omega
  unfold stpM at hf ⊢
  by_cases g0 : M 1 3 = 0
  · rw [if_pos g0] at hf ⊢
    rw [if_neg (by omega)] at l1
    by_cases h0 : M 2 4 = 0
    · rw [if_pos h0] at hf ⊢
      have kt : M b 11 = 0 := by
        by_cases q : M b 11 = 0
        · exact q
        · exfalso
          have hf : (if M b 11 = 0 then (0 : Int) else 3) = 0 := hf
          rw [if_neg q] at hf
          simp at hf
      show pLin b (zup M 1 3 1)
      obtain ⟨M2, hM2⟩ : ∃ M2, M2 = zup M 1 3 1 := ⟨_, rfl⟩
      rw [← hM2]
      have e1 : M2 1 3 = 1 := by rw [hM2, zup_q, if_pos ⟨rfl, rfl⟩]
      have e2 : M2 1 4 = M 1 4 := by rw [hM2, zup_q, if_neg (by decide)]
      have e3 : M2 b = M b := by rw [hM2, zup_ne _ _ _ b1]
      exact ⟨by rw [if_neg (by omega), e3]; omega, fun _ => by rw [e3]; exact kt, fun q => by omega⟩
    · rw [if_neg h0] at hf ⊢
      by_cases h1 : M 2 4 = 1
      · rw [if_pos h1] at hf ⊢
        have ll : M b 8 < 12 := by
          by_cases q : 12 ≤ M b 8
          · exfalso
            have hf : (if 12 ≤ M b 8 then (2 : Int) else 0) = 0 := hf
            rw [if_pos q] at hf
            simp at hf
          · omega
        show pLin b (zup M 1 3 3)
        obtain ⟨M2, hM2⟩ : ∃ M2, M2 = zup M 1 3 3 := ⟨_, rfl⟩
        rw [← hM2]
        have e1 : M2 1 3 = 3 := by rw [hM2, zup_q, if_pos ⟨rfl, rfl⟩]
        have e2 : M2 1 4 = M 1 4 := by rw [hM2, zup_q, if_neg (by decide)]
        have e3 : M2 b = M b := by rw [hM2, zup_ne _ _ _ b1]
        exact ⟨by rw [if_neg (by omega), e3]; omega, fun q => by omega, fun _ => by rw [e3]; exact ll⟩
      · rw [if_neg h1] at hf
        simp at hf
  · rw [if_neg g0] at hf ⊢
    by_cases g1 : M 1 3 = 1
    · rw [if_pos g1]
      rw [if_neg (by omega)] at l1
      have l2 := l2 g1
      show pLin b (zup (zup (zup M b 11 1) b 10 (M 2 6)) 1 3 2)
      obtain ⟨M2, hM2⟩ : ∃ M2, M2 = zup (zup (zup M b 11 1) b 10 (M 2 6)) 1 3 2 := ⟨_, rfl⟩
      rw [← hM2]
      have e1 : M2 1 3 = 2 := by rw [hM2, zup_q, if_pos ⟨rfl, rfl⟩]
      have e2 : M2 1 4 = M 1 4 := by rw [hM2, zup_q, if_neg (by decide), zup_ne _ _ _ (by omega), zup_ne _ _ _ (by omega)]
      have e3 : M2 b 8 = M b 8 := by rw [hM2, zup_ne _ _ _ b1, zup_q, if_neg (fun q => absurd q.2 (by decide)), zup_q, if_neg (fun q => absurd q.2 (by decide))]
      have e4 : M2 b 11 = 1 := by rw [hM2, zup_ne _ _ _ b1, zup_q, if_neg (fun q => absurd q.2 (by decide)), zup_q, if_pos ⟨rfl, rfl⟩]
      exact ⟨by rw [if_pos e1]; omega, fun q => by omega, fun q => by omega⟩
    · rw [if_neg g1] at hf ⊢
      by_cases g2 : M 1 3 = 2
      · rw [if_pos g2]
        rw [if_pos g2] at l1
        show pLin b (zup (zup M 1 4 (M 1 4 + 1)) 1 3 0)
        obtain ⟨M2, hM2⟩ : ∃ M2, M2 = zup (zup M 1 4 (M 1 4 + 1)) 1 3 0 := ⟨_, rfl⟩
        rw [← hM2]
        have e1 : M2 1 3 = 0 := by rw [hM2, zup_q, if_pos ⟨rfl, rfl⟩]
        have e2 : M2 1 4 = M 1 4 + 1 := by rw [hM2, zup_q, if_neg (by decide), zup_q, if_pos ⟨rfl, rfl⟩]
        have e3 : M2 b = M b := by rw [hM2, zup_ne _ _ _ b1, zup_ne _ _ _ b1]
        exact ⟨by rw [if_neg (by omega), e3]; omega, fun q => by omega, fun q => by omega⟩
      · rw [if_neg g2] at hf ⊢
        obtain ⟨⟨d1, d2, d3, d4, d5, d6, d7⟩, dw, dc, db, ds, dk⟩ := id hD
        have r : ∀ x j, dL b x j = false → M x j = M x j := fun _ _ _ => rfl
        by_cases g3 : M 1 3 = 3
        · rw [if_pos g3]
          exact same _ (fz_up d1 (fz_up d5 (fz_up (dc _) (fz_up d4 (fz_up d3 (fz_up d2 r)))))) (by omega) (by dsimp only; rw [zup_q, if_pos ⟨rfl, rfl⟩]; omega)
        · rw [if_neg g3] at hf ⊢
          by_cases g4 : M 1 3 = 4
          · rw [if_pos g4] at hf ⊢
            refine same _ (fz_A hD) (by omega) ?_
            have aw : ∀ (N : zM) (t : Int), awM N t 1 3 = N 1 3 := fun N t => by
              unfold awM
              split
              · rw [zup_q, if_neg (by decide), zup_ne _ _ _ (by decide)]
              · rfl
            unfold stpA
            repeat' split
            · dsimp only; rw [aw]; simp [zup_q]; omega
            · show 3 ≤ M 1 3; omega
            · dsimp only; (try unfold ckM); rw [zup_q, if_pos ⟨rfl, rfl⟩]; omega
            · dsimp only; (try unfold ckM); rw [zup_ne _ _ _ (by omega), zup_q, if_pos ⟨rfl, rfl⟩]; omega
            · dsimp only; (try unfold ckM); rw [zup_ne _ _ _ (by omega), zup_q, if_pos ⟨rfl, rfl⟩]; omega
            · dsimp only; (try unfold ckM); rw [zup_ne _ _ _ (by omega), aw, zup_q, if_neg (by decide)]; omega
            · dsimp only; (try unfold ckM); rw [zup_ne _ _ _ (by omega), aw]; omega
            · show 3 ≤ M 1 3; omega
          · rw [if_neg g4] at hf ⊢
            by_cases g5 : M 1 3 = 5
            · rw [if_pos g5] at hf ⊢
              unfold stpB at hf ⊢
              obtain ⟨i1, i2, i3, i4, i5⟩ := stl_n hb (least := 1) (M 1 7).toNat M
              by_cases h1 : M 2 4 = 17 ∧ M 1 8 = 0
              · rw [if_pos h1]
                rw [if_neg (by omega)] at l1
                have l3 := l3 (by omega)
                obtain ⟨N, hN⟩ : ∃ N, N = stlM b 1 (M 1 7).toNat M := ⟨_, rfl⟩
                rw [← hN] at i1 i2 i3 ⊢
                have nl := i3 8 (by decide)
                show pLin b (zup (zup (enM N b (N 1 5)) 1 4 (enM N b (N 1 5) 1 4 + 1)) 1 3 0)
                unfold enM
                rw [if_pos (by omega)]
                obtain ⟨M2, hM2⟩ : ∃ M2, M2 = zup (zup (zup (zup (zup N (b + 4) (N b 8).toNat (N 1 5)) (b + 5) (N b 8).toNat (N b 7)) b 8 (N b 8 + 1)) 1 4 (zup (zup (zup N (b + 4) (N b 8).toNat (N 1 5)) (b + 5) (N b 8).toNat (N b 7)) b 8 (N b 8 + 1) 1 4 + 1)) 1 3 0 := ⟨_, rfl⟩
                rw [← hM2]
                have e1 : M2 1 3 = 0 := by rw [hM2, zup_q, if_pos ⟨rfl, rfl⟩]
                have e2 : M2 1 4 = M 1 4 + 1 := by
                  rw [hM2, zup_q, if_neg (by decide), zup_q, if_pos ⟨rfl, rfl⟩, zup_ne _ _ _ (by omega), zup_ne _ _ _ (by omega), zup_ne _ _ _ (by omega), i2 _ (by decide)]
                have e3 : M2 b 8 = M b 8 + 1 := by rw [hM2, zup_ne _ _ _ b1, zup_ne _ _ _ b1, zup_q, if_pos ⟨rfl, rfl⟩, nl]
                have e4 : M2 b 11 = M b 11 := by
                  rw [hM2, zup_ne _ _ _ b1, zup_ne _ _ _ b1, zup_q, if_neg (fun q => absurd q.2 (by decide)), zup_ne _ _ _ (by omega), zup_ne _ _ _ (by omega), i3 _ (by decide)]
                exact ⟨by rw [if_neg (by omega)]; omega, fun q => by omega, fun q => by omega⟩
              · rw [if_neg h1] at hf ⊢
                by_cases h2 : M 2 4 = 19 ∧ 0 < M 1 8
                · rw [if_pos h2]
                  refine same _ (fz_up d4 (fz_up d3 (fz_st hD _ _ r))) (by omega) ?_
                  dsimp only
                  rw [zup_q, if_neg (by decide), zup_q, if_neg (by decide), i2 _ (by decide)]
                  omega
                · rw [if_neg h2] at hf ⊢
                  by_cases h3 : sgBad M
                  · rw [if_pos h3] at hf
                    simp at hf
                  · rw [if_neg h3]
                    refine same _ (fz_sg hD) (by omega) ?_
                    dsimp only
                    unfold ckM sgM
                    rw [zup_ne _ _ _ (by omega), zup_q, if_pos ⟨rfl, rfl⟩]
                    omega
            · rw [if_neg g5] at hf ⊢
              refine same _ (fz_W hD) (by omega) ?_
              unfold stpW
              split
              · dsimp only; (try unfold ckM); rw [zup_q, if_pos ⟨rfl, rfl⟩]; omega
              · split
                · dsimp only; (try unfold ckM); rw [zup_q, if_neg (by decide), zup_q, if_pos ⟨rfl, rfl⟩]; omega
                · split
                  · dsimp only; (try unfold ckM); rw [zup_q, if_pos ⟨rfl, rfl⟩]; omega
                  · split
                    · dsimp only; rw [wrM_n (by omega), zup_q, if_pos ⟨rfl, rfl⟩]; omega
                    · dsimp only; (try unfold ckM); rw [zup_q, if_pos ⟨rfl, rfl⟩]; omega
