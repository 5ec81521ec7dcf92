/-! the class reads the whole text: its loop -/
def rnM (b : Nat) (t : Nat → Int) (n : Nat) : Nat → Nat → zM → Option (Int × zM)
  | 0, _, _ => none
  | k + 1, a, M =>
    if lxK t n a = 32 ∧ M 1 3 = 0 then some (0, nxM M t n a)
    else if (stpM b (nxM M t n a)).1 = 0 then rnM b t n k (lxE t n a) (zup (stpM b (nxM M t n a)).2 1 1 0)
    else some ((stpM b (nxM M t n a)).1, zup (zup (stpM b (nxM M t n a)).2 1 1 (stpM b (nxM M t n a)).1) 1 2 (lxP t n a : Nat))
/-- the memory as reading begins -/
def st0M (M : zM) (b : Nat) (n : Int) : zM := zup (zup (zup (zup (zup (zup (zup (zup (zup (zup (zup (zup M 2 2 n) 2 1 0) 2 3 0) b 7 0) b 8 0) b 9 0) b 10 0) b 11 0) 1 1 0) 1 2 (-1)) 1 3 0) 1 4 0
theorem st0_r {b : Nat} (hb : b = 6 ∨ b = 13) (M : zM) (n : Int) : st0M M b n b 7 = 0 ∧ st0M M b n b 8 = 0 ∧ st0M M b n b 9 = 0 ∧ st0M M b n b 10 = 0 ∧ st0M M b n b 11 = 0 ∧ st0M M b n 1 3 = 0 ∧ st0M M b n 1 4 = 0 ∧ st0M M b n 2 3 = 0 ∧ st0M M b n 2 2 = n ∧ st0M M b n 2 1 = 0 ∧ st0M M b n 3 = M 3 := by
  unfold st0M
  rcases hb with rfl | rfl <;> (refine ⟨?_, ?_, ?_, ?_, ?_, ?_, ?_, ?_, ?_, ?_, ?_⟩ <;> first | (simp only [zup_q]; rfl) | (funext j; simp only [zup_q]; rfl))
theorem pInv_c {b : Nat} {M M2 : zM} (h : pInv b M) (mb : M2 b = M b) (m1 : ∀ j, j ≠ 1 → j ≠ 2 → M2 1 j = M 1 j) (mw : M2 4 = M 4) (mc : M2 5 = M 5) : pInv b M2 := by
  unfold pInv pIn5 at h ⊢
  rw [mb, m1 3 (by decide) (by decide), m1 7 (by decide) (by decide), m1 8 (by decide) (by decide), m1 10 (by decide) (by decide), mw, mc]
  exact h
theorem pLin_c {b : Nat} {M M2 : zM} (h : pLin b M) (mb : M2 b = M b) (m1 : ∀ j, j ≠ 1 → j ≠ 2 → M2 1 j = M 1 j) : pLin b M2 := by
  unfold pLin at h ⊢
  rw [mb, m1 3 (by decide) (by decide), m1 4 (by decide) (by decide)]
  exact h
/-- what reading may change -/
def dXr (b x j : Nat) : Bool := dS b x j || (x == 2 && [3, 4, 5, 6, 2, 1].contains j) || (x == 1 && [1, 2].contains j)
theorem dS_Xr {b : Nat} {M M0 : zM} (h : ∀ x j, dS b x j = false → M x j = M0 x j) : ∀ x j, dXr b x j = false → M x j = M0 x j := fun x j hx => h x j (by
  unfold dXr at hx
  simp only [Bool.or_eq_false_iff] at hx
  exact hx.1.1)
theorem dXr_nx {b : Nat} {M : zM} {t : Nat → Int} {n a : Nat} : ∀ x j, dXr b x j = false → nxM M t n a x j = M x j := fun x j hx => by
  have k : ∀ y i, x = y → j = i → dXr b y i = true → False := by
    intro y i h1 h2 h3
    subst h1
    subst h2
    rw [hx] at h3
    cases h3
  unfold nxM
  rw [tpS_q, if_neg (fun q => k _ _ q.1 q.2 ?_), if_neg (fun q => k _ _ q.1 q.2 ?_), if_neg (fun q => k _ _ q.1 q.2 ?_), if_neg (fun q => k _ _ q.1 q.2 ?_)] <;> (unfold dXr; simp)
theorem fxt {d : Nat → Nat → Bool} {M1 M2 M3 : zM} (h1 : ∀ x j, d x j = false → M2 x j = M1 x j) (h2 : ∀ x j, d x j = false → M3 x j = M2 x j) : ∀ x j, d x j = false → M3 x j = M1 x j := fun x j hx => (h2 x j hx).trans (h1 x j hx)
theorem rn_fr {b : Nat} {t : Nat → Int} {n : Nat} (k a : Nat) (M : zM) (f : Int) (M9 : zM) (h : rnM b t n k a M = some (f, M9)) : ∀ x j, dXr b x j = false → M9 x j = M x j := by
  induction k generalizing a M with
  | zero => cases h
  | succ k ih =>
    have dk : dXr b 1 1 = true := by unfold dXr; simp
    have dp : dXr b 1 2 = true := by unfold dXr; simp
    have s1 : ∀ x j, dXr b x j = false → (stpM b (nxM M t n a)).2 x j = M x j := fxt dXr_nx (dS_Xr dS_step)
    unfold rnM at h
    split at h
    · cases h
      exact dXr_nx
    · split at h
      · exact fxt (fz_up dk s1) (ih _ _ h)
      · cases h
        exact fz_up dp (fz_up dk s1)
theorem stp_f {b : Nat} {M : zM} (P : Int → Prop) (p0 : P 0) (p1 : P 1) (p2 : P 2) (p3 : P 3) : P (stpM b M).1 := by
  have j : ∀ lo hi, P (jdg M lo hi) := fun lo hi => by
    unfold jdg
    repeat' split
    all_goals assumption
  have c : ∀ N, P (ckF N b) := fun N => by
    unfold ckF
    repeat' split
    all_goals assumption
  have A : P (stpA b M).1 := by
    unfold stpA
    repeat' split
    all_goals first | assumption | exact j _ _ | exact c _
  have B : P (stpB b M).1 := by
    unfold stpB
    repeat' split
    all_goals first | assumption | exact j _ _ | exact c _
  have W : P (stpW b M).1 := by
    unfold stpW
    repeat' split
    all_goals first | assumption | exact j _ _ | exact c _ | (show P (if _ then _ else _); repeat' split) <;> assumption
  unfold stpM
  repeat' split
  all_goals first | assumption | exact j _ _ | exact c _ | (show P (if _ then _ else _); repeat' split) <;> assumption
set_option maxHeartbeats 4000000 in
theorem c_readBook {E : zE} {M : zM} {Q : Int → zM → Prop} {b n : Nat} (hb : zIs_6 (b : Int)) (hn : (n : Int) ≤ M 2 1) (hs : M 2 1 ≤ 500) (hB : ∀ i, 0 ≤ M 3 i ∧ M 3 i ≤ 255)
    (h : ∀ (f : Int) (M9 : zM), rnM b (M 3) n 501 0 (st0M M b n) = some (f, M9) → (f = 0 → pInv b M9 ∧ pLin b M9 ∧ M9 1 3 = 0) → Q (if f = 0 then M9 1 4 else -1) M9) : zP E mX7_readBook [.inr (.inr 1), .inl (n : Int), .inr (.inr (b : Int))] M Q := by
  obtain ⟨bc, e0, -⟩ := bk_c hb
  obtain ⟨t, ht⟩ : ∃ t, t = M 3 := ⟨_, rfl⟩
  rw [← ht] at hB h
  have b1 : b ≠ 1 := by omega
  have b2 : b ≠ 2 := by omega
  refine vcX7_readBook _ _ hb (fun m l3 M' => ∃ i a : Nat, l3 = (i : Int) ∧ i ≤ 501 ∧ m = 600 - i ∧ i ≤ a ∧ a ≤ n ∧ M' 2 3 = (a : Int) ∧ txR M' t n ∧ pInv b M' ∧ pLin b M' ∧ rnM b t n (501 - i) a M' = rnM b t n 501 0 (st0M M b n)) ?_ ?_
  · refine vcX9_startText _ ?_
    have x0 : (if M 2 1 < (n : Int) then M 2 1 else (n : Int)) = (n : Int) := by rw [if_neg (by omega)]
    rw [x0]
    have x1 : (if 0 < (n : Int) then (n : Int) else 0) = (n : Int) := by split <;> omega
    rw [x1]
    refine ⟨⟨by unfold zR; omega, by unfold zR; omega⟩, by unfold zR; omega, ?_⟩
    intro M1 h1 M2 h2 M3 h3
    refine vcX6_clear _ hb ?_
    rw [e0]
    intro M4 h4 M5 h5 M6 h6 M7 h7 M8 h8 M9 h9 M10 h10 M11 h11 M12 h12
    have eM : M12 = st0M M b n := by rw [h12, h11, h10, h9, h8, h7, h6, h5, h4, h3, h2, h1]; rfl
    obtain ⟨r1, r2, r3, r4, r5, r6, r7, r8, r9, r10, r11⟩ := st0_r bc M n
    rw [eM]
    refine ⟨600 - 0, 0, 0, rfl, by omega, rfl, Nat.le_refl _, by omega, r8, ⟨r9, by omega, by rw [r11]; exact ht.symm, hB⟩, ?_, ?_, rfl⟩
    · exact ⟨by omega, by omega, by omega, by omega, by omega, fun _ => by omega, fun q => by omega⟩
    · refine ⟨?_, fun q => by omega, fun q => by omega⟩
      rw [r6, r7, r2, r5]
      rfl
  · rintro m l3 M' ⟨i, a, rfl, hi, rfl, hia, han, hat, hT, hp, hl, hr⟩
    have hT0 := hT
    obtain ⟨t1, t2, t3, t4⟩ := hT
    obtain ⟨x1, x2, x3, x4, x5⟩ := lx_r (t := t) han
    obtain ⟨e1, e2, e3, e4, e5⟩ := nxM_r M' t n a
    have tk := nx_tk (M := M') (t := t) han
    refine ⟨by unfold zR; omega, fun q => by omega, fun q => ?_⟩
    refine c_next hT0 hat han ?_
    obtain ⟨M1, hM1⟩ : ∃ M1, M1 = nxM M' t n a := ⟨_, rfl⟩
    rw [← hM1] at e1 e2 e3 e4 tk ⊢
    have p1 : pInv b M1 := pInv_c hp (e4 b b2) (fun j _ _ => by rw [e4 1 (by decide)]) (e4 _ (by decide)) (e4 _ (by decide))
    have l1 : pLin b M1 := pLin_c hl (e4 b b2) (fun j _ _ => by rw [e4 1 (by decide)])
    have ed : M1 1 3 = M' 1 3 := by rw [e4 1 (by decide)]
    have hk : 501 - i = (501 - (i + 1)) + 1 := by omega
    rw [hk] at hr
    have un : rnM b t n (501 - (i + 1) + 1) a M' = (if lxK t n a = 32 ∧ M' 1 3 = 0 then some (0, M1) else if (stpM b M1).1 = 0 then rnM b t n (501 - (i + 1)) (lxE t n a) (zup (stpM b M1).2 1 1 0) else some ((stpM b M1).1, zup (zup (stpM b M1).2 1 1 (stpM b M1).1) 1 2 (lxP t n a : Nat))) := by rw [hM1]; rfl
    rw [un] at hr
    have core : ¬ (lxK t n a = 32 ∧ M' 1 3 = 0) → zP E mX7_take [.inr (.inr 1), .inr (.inr (b : Int))] M1 (fun r11 M12 => ∀ M13, M13 = zup M12 1 1 r11 → ((zR (M13 1 1)) ∧ (((M13 1 1) = 0 → ∃ n', n' < 600 - i ∧ ∃ i' a' : Nat, (i : Int) + 1 = (i' : Int) ∧ i' ≤ 501 ∧ n' = 600 - i' ∧ i' ≤ a' ∧ a' ≤ n ∧ M13 2 3 = (a' : Int) ∧ txR M13 t n ∧ pInv b M13 ∧ pLin b M13 ∧ rnM b t n (501 - i') a' M13 = rnM b t n 501 0 (st0M M b n)) ∧ (¬ (M13 1 1) = 0 → (∀ M14, M14 = zup M13 1 2 (M13 2 5) → Q (-1) M14))))) := fun q0 => by
      rw [if_neg q0] at hr
      refine c_takeS hb p1 tk ?_
      intro M13 h13
      have k13 : M13 1 1 = (stpM b M1).1 := by rw [h13, zup_q, if_pos ⟨rfl, rfl⟩]
      have fr := dS_step (b := b) (M := M1)
      have tp : (stpM b M1).2 2 = M1 2 := funext fun j => fr _ _ (by
        rcases bc with rfl | rfl <;> rfl)
      have tb : (stpM b M1).2 3 = M1 3 := funext fun j => fr _ _ (by
        rcases bc with rfl | rfl <;> rfl)
      have fk := stp_f (b := b) (M := M1) (fun v => v = 0 ∨ v = 1 ∨ v = 2 ∨ v = 3) (Or.inl rfl) (Or.inr (Or.inl rfl)) (Or.inr (Or.inr (Or.inl rfl))) (Or.inr (Or.inr (Or.inr rfl)))
      rw [k13]
      refine ⟨by unfold zR; omega, fun q1 => ?_, fun q1 => ?_⟩
      · rw [if_pos q1] at hr
        have n32 : lxK t n a ≠ 32 := fun q2 => by
          have q3 : M1 1 3 ≠ 0 := fun q4 => q0 ⟨q2, by rw [← ed]; exact q4⟩
          exact end_bad (by rw [e2]; exact q2) q3 q1
        have lt := x5 n32
        have p2 := inv_step bc p1 tk q1
        have l2 := lin_step bc p1 l1 q1
        have m13 : M13 = zup (stpM b M1).2 1 1 0 := by rw [h13, q1]
        refine ⟨600 - (i + 1), by omega, i + 1, lxE t n a, by omega, by omega, rfl, by omega, by omega, ?_, ?_, ?_, ?_, ?_⟩
        · rw [h13, zup_ne _ _ _ (by decide), tp]
          exact e1
        · refine ⟨?_, t2, ?_, t4⟩
          · rw [h13, zup_ne _ _ _ (by decide), tp, hM1]
            unfold nxM
            rw [(tpS_r ..).2.2.2.2.1]
            exact t1
          · rw [h13, zup_ne _ _ _ (by decide), tb, e4 _ (by decide)]
            exact t3
        · exact pInv_c p2 (by rw [h13, zup_ne _ _ _ b1]) (fun j j1 _ => by rw [h13, zup_q, if_neg (fun q2 => j1 q2.2)]) (by rw [h13, zup_ne _ _ _ (by decide)]) (by rw [h13, zup_ne _ _ _ (by decide)])
        · exact pLin_c l2 (by rw [h13, zup_ne _ _ _ b1]) (fun j j1 _ => by rw [h13, zup_q, if_neg (fun q2 => j1 q2.2)])
        · rw [m13]
          exact hr
      · rw [if_neg q1] at hr
        intro M14 h14
        have pl : M13 2 5 = (lxP t n a : Int) := by rw [h13, zup_ne _ _ _ (by decide), tp]; exact e3
        have := h (stpM b M1).1 M14 (by rw [← hr, h14, pl, h13]) (fun q2 => absurd q2 q1)
        rw [if_neg q1] at this
        exact this
    rw [e2]
    refine ⟨by unfold zR; omega, fun q1 => core (fun q2 => q1 q2.1), fun q1 => ?_⟩
    have dr := p1.2.2.2.1
    refine ⟨by unfold zR; omega, fun q2 => core (fun q3 => q2 (by rw [ed]; exact q3.2)), fun q2 => ?_⟩
    rw [ed] at q2
    rw [if_pos ⟨q1, q2⟩] at hr
    have := h 0 M1 hr.symm (fun _ => ⟨p1, l1, by rw [ed]; exact q2⟩)
    rw [if_pos rfl] at this
    exact this
