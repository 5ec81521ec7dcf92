/-! rules(): the pair; the law -/
theorem rs0_o (M : zM) (n : Int) : ∀ y, y ≠ 102 → rs0 M n y = M y := fun y hy => by
  unfold rs0
  rw [zup_ne _ _ _ hy, zup_ne _ _ _ hy, zup_ne _ _ _ hy, zup_ne _ _ _ hy, zup_ne _ _ _ hy, zup_ne _ _ _ hy, zup_ne _ _ _ hy, zup_ne _ _ _ hy, zup_ne _ _ _ hy, zup_ne _ _ _ hy, zup_ne _ _ _ hy]
theorem rs0_t (M : zM) (n : Int) (j : Nat) (h : ¬ (j = 2 ∨ j = 17 ∨ j = 1 ∨ j = 15 ∨ j = 16 ∨ j = 18 ∨ j = 33 ∨ j = 35 ∨ j = 36 ∨ j = 38 ∨ j = 39)) : rs0 M n 102 j = M 102 j := by
  unfold rs0
  rw [zup_1, if_neg (by omega), zup_1, if_neg (by omega), zup_1, if_neg (by omega), zup_1, if_neg (by omega), zup_1, if_neg (by omega), zup_1, if_neg (by omega), zup_1, if_neg (by omega), zup_1, if_neg (by omega), zup_1, if_neg (by omega), zup_1, if_neg (by omega), zup_1, if_neg (by omega)]
theorem dPr_j {x j : Nat} (h : ¬ jQ x j) : dPr x j = false := by
  cases hd : dPr x j with
  | false => rfl
  | true =>
    exfalso
    unfold dPr at hd
    unfold jQ at h
    simp only [Bool.or_eq_true, Bool.and_eq_true, beq_iff_eq, decide_eq_true_eq, List.contains_cons, List.contains_nil, Bool.or_false] at hd
    omega
theorem rs0_j (M : zM) (n : Int) {x j : Nat} (h : ¬ jQ x j) : rs0 M n x j = M x j := by
  by_cases q : x = 102
  · rw [q] at h ⊢
    exact rs0_t M n j (by unfold jQ at h; omega)
  · rw [rs0_o M n x q]
theorem ref_fr {Mc Mm M' : zM} {n : Int} {L kn i k : Nat} (hp : frP (rs0 Mc n) Mm) (hc : cpy Mm M' L kn i k) : ∀ x j, ¬ jQ x j → M' x j = Mc x j := fun x j h => by
  have e : M' x j = Mm x j := by
    by_cases q : x = 102
    · rw [q] at h ⊢
      unfold jQ at h
      rw [hc.2.1, if_neg (by omega), if_neg (by omega), if_neg (by omega)]
    · rw [hc.1 x q (by unfold jQ at h; omega)]
  rw [e, hp x j (dPr_j h), rs0_j Mc n h]
theorem ref_q {Mc M' : zM} {n : Int} (hp : frQ (rs0 Mc n) M') : (∀ x j, ¬ jQ x j → M' x j = Mc x j) ∧ lowE Mc M' ∧ (M' 102 34 = Mc 102 34 ∧ M' 102 37 = Mc 102 37) ∧ M' 102 1 = 0 := by
  have lo : ∀ x j, dPr x j = false → x ≠ 102 → M' x j = Mc x j := fun x j hd hx => by rw [hp x j hd (fun q => hx q.1), rs0_o Mc n x hx]
  have z12 : ∀ x l, (x = 120 ∨ x = 121 ∨ x = 122) → l < 12 → dPr x l = false := fun x l hx hl => by
    cases hd : dPr x l with
    | false => rfl
    | true =>
      exfalso
      unfold dPr at hd
      simp only [Bool.or_eq_true, Bool.and_eq_true, beq_iff_eq, decide_eq_true_eq, List.contains_cons, List.contains_nil, Bool.or_false] at hd
      omega
  have z64 : ∀ x l, (x = 113 ∨ x = 114 ∨ x = 115 ∨ x = 116 ∨ x = 117 ∨ x = 118 ∨ x = 119) → l < 64 → dPr x l = false := fun x l hx hl => by
    cases hd : dPr x l with
    | false => rfl
    | true =>
      exfalso
      unfold dPr at hd
      simp only [Bool.or_eq_true, Bool.and_eq_true, beq_iff_eq, decide_eq_true_eq, List.contains_cons, List.contains_nil, Bool.or_false] at hd
      omega
  have th : ∀ j, dPr 102 j = false → ¬ (j = 15 ∨ j = 16) → M' 102 j = rs0 Mc n 102 j := fun j hd hj => hp _ j hd (fun q => hj q.2)
  refine ⟨fun x j h => ?_, ⟨?_, fun l hl => ⟨lo _ _ (z12 _ l (by decide) hl) (by decide), lo _ _ (z12 _ l (by decide) hl) (by decide), lo _ _ (z12 _ l (by decide) hl) (by decide)⟩, fun a ha => ⟨lo _ _ (z64 _ a (by decide) ha) (by decide), lo _ _ (z64 _ a (by decide) ha) (by decide), lo _ _ (z64 _ a (by decide) ha) (by decide), lo _ _ (z64 _ a (by decide) ha) (by decide), lo _ _ (z64 _ a (by decide) ha) (by decide), lo _ _ (z64 _ a (by decide) ha) (by decide), lo _ _ (z64 _ a (by decide) ha) (by decide)⟩⟩, ⟨?_, ?_⟩, ?_⟩
  · rw [hp x j (dPr_j h) (fun q => h (by unfold jQ; omega)), rs0_j Mc n h]
  · rw [th _ rfl (by decide), rs0_t _ _ _ (by decide)]
  · rw [th _ rfl (by decide), rs0_t _ _ _ (by decide)]
  · rw [th _ rfl (by decide), rs0_t _ _ _ (by decide)]
  · rw [th _ rfl (by decide)]
    unfold rs0
    simp [zup_q]
theorem r_rulesN {E : zE} {M : zM} {Q : Int → zM → Prop} {a : Int} (ha : zR a) (hts : 0 ≤ M 102 1 ∧ M 102 1 ≤ 500) (h : a < 0 ∨ M 102 1 < a) (hq : Q (-2) (zup M 102 2 0)) : zP E mX12_rules [.inr (.inr 102), .inl a] M Q := by
  refine vcX12_rules _ (fun _ _ => False) (fun _ _ _ => False) (fun _ _ _ => False) ?_ (fun _ _ q => q.elim) (fun _ _ _ q => q.elim) (fun _ _ _ q => q.elim)
  intro M1 m1
  have et : M1 102 1 = M 102 1 := by rw [m1, zup_q, if_neg (by decide)]
  rw [et]
  exact ⟨ha, fun q => by rw [m1]; exact hq, fun q => ⟨⟨ha, by unfold zR; omega⟩, fun q2 => absurd q2 (by omega), fun q2 => by rw [m1]; exact hq⟩⟩
/-- the reference is at the text's end: the class is, too -/
theorem en_R {b : Nat} {t : Nat → Int} {n : Nat} {R : Int × zM} {M0 Mm V : zM} {k a L kn o : Nat} (h : enS b t n R M0 Mm V k a L kn o) : R = (0, nxM V t n a) := by
  obtain ⟨T, l, -, kd⟩ := h
  have k32 := (tk_l T).2.2.1.mp kd
  have r := T.2.2.2.2.2
  cases k with
  | zero => cases r
  | succ k =>
    unfold rnM at r
    rw [if_pos ⟨k32, l.1⟩] at r
    exact (Option.some.inj r).symm
/-- the lines in their place -/
theorem en_bk {b : Nat} {t : Nat → Int} {n : Nat} {R : Int × zM} {M0 Mm V M' : zM} {k a L kn o : Nat} (hb : b = 6 ∨ b = 13) (h : enS b t n R M0 Mm V k a L kn o) (hc : cpy Mm M' L kn L kn) (hv : ∀ i, i ≤ 5 → M' (b + i) = V (b + i)) : bkL b M' L o := by
  obtain ⟨T, l, -, kd⟩ := h
  obtain ⟨l1, l2, ⟨-, -, -, a6, -⟩, -, -, l8, l9, l10⟩ := l
  obtain ⟨c1, c2, c3, c4, c5⟩ := hc
  have nb : ∀ i, i ≤ 5 → b + i < 102 := fun i hi => by omega
  have sc : ∀ i, i ≤ 5 → shM V Mm (b + i) = V (b + i) := fun i hi => sh_c (nb i hi)
  have ag : agr (shM V Mm) M' b o := fun j hj => by
    obtain ⟨y, y1, y2⟩ := l8 j hj
    refine ⟨⟨?_, ?_, ?_, ?_⟩, fun x hx => ?_⟩
    · rw [sh_gb, c5 _ (Or.inr (Or.inr rfl)), if_pos (by omega)]
    · rw [sc 1 (by decide), hv 1 (by decide)]
    · rw [sc 2 (by decide), hv 2 (by decide)]
    · rw [sc 3 (by decide), hv 3 (by decide)]
    · rw [sh_gb] at hx
      have hx2 : x < kn := by omega
      refine ⟨?_, ?_, ?_, ?_, ?_, ?_⟩
      · rw [sh_k (Or.inl rfl), c4 _ (Or.inl rfl), if_pos hx2]
      · rw [sh_3 (Or.inl rfl), c5 _ (Or.inl rfl), if_pos hx2]
      · rw [sh_3 (Or.inr (Or.inl rfl)), c5 _ (Or.inr (Or.inl rfl)), if_pos hx2]
      · rw [sh_k (Or.inr (Or.inl rfl)), c4 _ (Or.inr (Or.inl rfl)), if_pos hx2]
      · rw [sh_k (Or.inr (Or.inr (Or.inl rfl))), c4 _ (Or.inr (Or.inr (Or.inl rfl))), if_pos hx2]
      · rw [sh_k (Or.inr (Or.inr (Or.inr rfl))), c4 _ (Or.inr (Or.inr (Or.inr rfl))), if_pos hx2]
  refine bkL_g a6 (Nat.le_refl _) ag (fun i hi => ⟨?_, ?_, ?_, ?_, ?_⟩)
  · rw [sc 4 (by decide), hv 4 (by decide)]
  · rw [sc 5 (by decide), hv 5 (by decide)]
  · rw [sh_l (Or.inl rfl), c3 _ (Or.inl rfl), if_pos hi]
  · rw [sh_l (Or.inr (Or.inl rfl)), c3 _ (Or.inr (Or.inl rfl)), if_pos hi]
  · rw [sh_l (Or.inr (Or.inr rfl)), c3 _ (Or.inr (Or.inr rfl)), if_pos hi]
set_option maxHeartbeats 4000000 in
theorem q_rules {E : zE} {k : Nat} {M : zM} {a : Int} (h : REL k M) (ha : zR a) : zPP E mX11_rules mX12_rules [.inl a] M (REL (k + 1)) := by
  obtain ⟨t1, t2, t3, t4, t5⟩ := h.1.2.1
  have thr := REL_thr h
  have zs : zR (M 2 1) := by rw [t1]; unfold zR; omega
  have neg : (a < 0 ∨ M 102 1 < a) → zP E mX12_rules [.inr (.inr 102), .inl a] M (fun r2 M2 => (zR (-2) ∧ zR r2) ∧ -2 = r2 ∧ REL (k + 1) M2) := fun q => r_rulesN ha t2 q ⟨⟨zRd rfl, zRd rfl⟩, rfl, thr⟩
  refine vcX11_rules _ ?_
  refine ⟨ha, fun q => neg (Or.inl q), fun q => ⟨⟨ha, zs⟩, fun q2 => ?_, fun q2 => neg (Or.inr (by rw [← t1]; exact q2))⟩⟩
  obtain ⟨n, hn⟩ : ∃ n : Nat, a = (n : Int) := ⟨a.toNat, by omega⟩
  subst hn
  obtain ⟨fo, b, hf, hbk, fb⟩ := bk_d h.1
  have hb : b = 6 ∨ b = 13 := by omega
  have hbI : zIs_6 (b : Int) := by unfold zIs_6; omega
  rw [hbk]
  refine c_readBook hbI q2 (by omega) t5 ?_
  intro g M9 hr hpost
  obtain ⟨r1, r2, r3, r4, r5, r6, r7, r8, r9, r10, r11⟩ := st0_r hb M (n : Int)
  have k0 : kpO b (st0M M b n) := by
    refine ⟨by omega, ?_, ?_⟩
    · unfold st0M
      simp [zup_q]
    · unfold st0M
      simp [zup_q]
  have p0 : pInv b (st0M M b n) := ⟨by omega, by omega, by omega, by omega, by omega, fun _ => by omega, fun q => by omega⟩
  obtain ⟨d1, d2, d3⟩ := rn_end hb 501 0 (Nat.zero_le n) _ k0 g M9 hr
  have sz : M9 2 1 = 0 := by rw [rn_sz hb (Nat.zero_le n) hr]; exact r10
  have F9 := rn_fr2 hb hr
  have hV : rnM b (M 103) n 501 0 (st0M M b n) = some (g, M9) := (rn_t (fun i hi => t3 i (by omega)) 501 0 (Nat.zero_le n) _).symm.trans hr
  have hv : st0M M b n 1 3 = 0 ∧ pInv b (st0M M b n) ∧ st0M M b n b 8 = 0 ∧ st0M M b n b 10 = 0 ∧ st0M M b n b 11 = 0 ∧ st0M M b n b 9 = 0 ∧ st0M M b n b 7 = 0 := ⟨r6, p0, r2, r4, r5, r3, r1⟩
  have hi9 : ∀ x, 102 ≤ x → M9 x = M x := fun x hx => F9 x (by omega) (by omega) (by omega) (by omega) (by omega)
  have W9 : M9 0 = M 0 := F9 _ (by decide) (by decide) (by decide) (by decide) (by omega)
  by_cases g0 : g = 0
  · obtain ⟨pI, pL, pd⟩ := hpost g0
    obtain ⟨kp9, fk9, fp9⟩ := d1 g0
    rw [if_pos g0]
    have ln9 : M9 1 4 = M9 b 8 + M9 b 11 := by
      have := pL.1
      rw [pd, if_neg (by decide)] at this
      omega
    have l12 := pI.2.1
    have t01 := pI.2.2.2.2.1
    refine ⟨by unfold zR; omega, fun _ => ?_, fun q => absurd q (by omega)⟩
    intro M3 m3 M4 m4
    have zf : zFix M4 := zFix_c (fun x j hx => by
      have c : x ≠ 0 ∧ x ≠ 1 ∧ x ≠ 4 ∧ x ≠ 5 ∧ x ≠ 2 ∧ (x < b ∨ b + 5 < x) := by
        simp only [dFix, Bool.or_eq_true, Bool.and_eq_true, beq_iff_eq, List.contains_cons, List.contains_nil, Bool.or_false] at hx
        omega
      obtain ⟨c0, c1, c2, c3, c4, c5⟩ := c
      rw [m4, zup_ne _ _ _ c0, m3, zup_ne _ _ _ c0, F9 x c1 c2 c3 c4 c5]) h.1.1
    have rk4 : M4 0 6 = M 0 6 := by rw [m4, zup_q, if_neg (by decide), m3, zup_q, if_neg (by decide), W9]
    have rkr := h.1.2.2.2.2.2.2.2.2.2.2.2.2.2.1
    refine c_alertsChanged zf (by rw [rk4]; unfold zR; omega) (zRd rfl) ?_
    obtain ⟨MC, hMC⟩ : ∃ MC, MC = cAl M4 0 := ⟨_, rfl⟩
    rw [← hMC]
    have bk9 : M9 0 2 = (fo : Int) ∧ M9 0 3 = (b : Int) := by rw [W9]; exact ⟨hf, hbk⟩
    have eMC : MC = zup (zup (zup (zup (zup (zup (zup (zup (zup (zup M9 0 2 (b : Int)) 0 3 (fo : Int)) 0 6 0) 0 7 0) 70 10 0) 80 10 0) 90 10 0) 99 0 0) 100 0 0) 101 0 0 := by
      have z0 : (if 0 < M4 0 6 then 0 else M4 0 6) = 0 := by
        rw [rk4]
        split <;> omega
      rw [hMC]
      unfold cAl cEs cPl
      rw [z0, m4, m3, bk9.1, bk9.2]
    have cC : ∀ x, x ≠ 0 → x ≠ 70 → x ≠ 80 → x ≠ 90 → x ≠ 99 → x ≠ 100 → x ≠ 101 → MC x = M9 x := fun x x1 x2 x3 x4 x5 x6 x7 => by
      rw [eMC, zup_ne _ _ _ x7, zup_ne _ _ _ x6, zup_ne _ _ _ x5, zup_ne _ _ _ x4, zup_ne _ _ _ x3, zup_ne _ _ _ x2, zup_ne _ _ _ x1, zup_ne _ _ _ x1, zup_ne _ _ _ x1, zup_ne _ _ _ x1]
    have hiC : ∀ x, 102 ≤ x → MC x = M x := fun x hx => by rw [cC x (by omega) (by omega) (by omega) (by omega) (by omega) (by omega) (by omega), hi9 x hx]
    have ths : MC 102 = M 102 := hiC _ (by decide)
    refine r_rules (V := st0M M b n) (R := (g, M9)) (t := M 103) hb (by rw [ths]; omega) (by rw [ths]; omega) (hiC _ (by decide)) t4 (wds_e (hiC _ (by decide)) h.2.2.2.2) hV hv (fun M' fs _ => absurd g0 fs.1) (fun Mm V' M' k2 a2 L kn o en cp => ?_)
    have eR := en_R en
    have e9 : M9 = nxM V' (M 103) n a2 := congrArg Prod.snd eR
    have bV : ∀ i, i ≤ 5 → M9 (b + i) = V' (b + i) := fun i hi => by rw [e9, (nxM_r V' (M 103) n a2).2.2.2.1 _ (by omega)]
    obtain ⟨T, l, FP, kd⟩ := id en
    obtain ⟨l1, l2, ⟨⟨a1, a2'⟩, ⟨a3, a4⟩, a5, -⟩, ⟨l4, l5⟩, -, -, l9, l10⟩ := l
    have RF := ref_fr FP cp
    have b0 : M9 b = V' b := bV 0 (by decide)
    have xC : ∀ x, x < 102 → x ≠ 0 → x ≠ 70 → x ≠ 80 → x ≠ 90 → x ≠ 99 → x ≠ 100 → x ≠ 101 → M' x = M9 x := fun x x0 x1 x2 x3 x4 x5 x6 x7 => by
      rw [← cC x x1 x2 x3 x4 x5 x6 x7]
      exact funext fun j => RF x j (by unfold jQ; omega)
    have bM : ∀ i, i ≤ 5 → M' (b + i) = V' (b + i) := fun i hi => by rw [xC _ (by omega) (by omega) (by omega) (by omega) (by omega) (by omega) (by omega) (by omega), bV i hi]
    have bM0 : M' b = V' b := bM 0 (by decide)
    have mt : Mm 102 36 = M9 b 11 := by rw [a4, b0]
    have ml : M9 b 8 = (L : Int) := by rw [b0]; exact a2'
    have er : M9 1 4 = (L : Int) + Mm 102 36 := by rw [ln9, ml, mt]
    have fm : ∀ j, j ≠ 37 → j ≠ 34 → j ≠ 32 → dPr 102 j = false → M' 102 j = rs0 MC n 102 j := fun j j1 j2 j3 jd => by rw [cp.2.1, if_neg j1, if_neg j2, if_neg j3, FP _ j jd]
    have ef : M' 102 15 = 0 ∧ M' 102 16 = -1 ∧ M' 102 1 = 0 := by
      rw [fm _ (by decide) (by decide) (by decide) rfl, fm _ (by decide) (by decide) (by decide) rfl, fm _ (by decide) (by decide) (by decide) rfl]
      unfold rs0
      refine ⟨?_, ?_, ?_⟩ <;> simp [zup_q]
    have eRR : M' 1 = M9 1 := xC _ (by decide) (by decide) (by decide) (by decide) (by decide) (by decide) (by decide) (by decide)
    have eT : M' 2 = M9 2 := xC _ (by decide) (by decide) (by decide) (by decide) (by decide) (by decide) (by decide) (by decide)
    have eW : ∀ j, M' 0 j = MC 0 j := fun j => RF _ j (by unfold jQ; omega)
    have lk : M' 102 32 = (L : Int) ∧ M' 102 34 = Mm 102 35 ∧ M' 102 37 = (kn : Int) := ⟨by rw [cp.2.1, if_neg (by decide), if_neg (by decide), if_pos rfl], by rw [cp.2.1, if_neg (by decide), if_pos rfl], by rw [cp.2.1, if_pos rfl]⟩
    have ek : Mm 102 35 = M9 b 10 := by rw [a3, b0]
    have F : ∀ x j, ¬ cG b x j → M' x j = M x j := fun x j hn => by
      have hj : ¬ jQ x j := fun q => hn (Or.inl (Or.inr (Or.inr (Or.inr (Or.inr (Or.inr q))))))
      have c : x ≠ 1 ∧ x ≠ 4 ∧ x ≠ 5 ∧ x ≠ 2 ∧ (x < b ∨ b + 5 < x) := by
        unfold cG cF jQ at hn
        omega
      obtain ⟨c1, c2, c3, c4, c5⟩ := c
      rw [RF x j hj, ← F9 x c1 c2 c3 c4 c5, eMC]
      unfold cG at hn
      rw [zup_q, if_neg (fun q => hn (Or.inr (Or.inr (Or.inr ⟨Or.inr (Or.inr q.1), q.2⟩)))), zup_q, if_neg (fun q => hn (Or.inr (Or.inr (Or.inr ⟨Or.inr (Or.inl q.1), q.2⟩)))), zup_q, if_neg (fun q => hn (Or.inr (Or.inr (Or.inr ⟨Or.inl q.1, q.2⟩)))), zup_q, if_neg (fun q => hn (Or.inr (Or.inr (Or.inl ⟨Or.inr (Or.inr q.1), q.2⟩)))), zup_q, if_neg (fun q => hn (Or.inr (Or.inr (Or.inl ⟨Or.inr (Or.inl q.1), q.2⟩)))), zup_q, if_neg (fun q => hn (Or.inr (Or.inr (Or.inl ⟨Or.inl q.1, q.2⟩)))), zup_q, if_neg (fun q => hn (Or.inr (Or.inl ⟨q.1, Or.inr (Or.inr (Or.inr q.2))⟩))), zup_q, if_neg (fun q => hn (Or.inr (Or.inl ⟨q.1, Or.inr (Or.inr (Or.inl q.2))⟩))), zup_q, if_neg (fun q => hn (Or.inr (Or.inl ⟨q.1, Or.inr (Or.inl q.2)⟩))), zup_q, if_neg (fun q => hn (Or.inr (Or.inl ⟨q.1, Or.inl q.2⟩)))]
    have vC : MC 0 2 = (b : Int) ∧ MC 0 3 = (fo : Int) ∧ MC 0 6 = 0 ∧ MC 0 7 = 0 := by
      rw [eMC]
      refine ⟨?_, ?_, ?_, ?_⟩ <;> simp [zup_q]
    have led : ∀ w : Nat, w < 3 → M' (fid w) 10 = 0 := all3 (p := fun x => M' x 10 = 0) (by rw [RF _ _ (by unfold jQ; omega), eMC]; simp [zup_q]) (by rw [RF _ _ (by unfold jQ; omega), eMC]; simp [zup_q]) (by rw [RF _ _ (by unfold jQ; omega), eMC]; simp [zup_q])
    have kno : ∀ m : Nat, m < 3 → M' (plid m) 0 = 0 := allP (p := fun x => M' x 0 = 0) (by rw [RF _ _ (by unfold jQ; omega), eMC]; simp [zup_q]) (by rw [RF _ _ (by unfold jQ; omega), eMC]; simp [zup_q]) (by rw [RF _ _ (by unfold jQ; omega), eMC]; simp [zup_q])
    have Z : REL (k + 1) M' := by
      refine k_ok (b := b) (L := L) (kn := kn) (o := o) h hbk F ⟨⟨by rw [eT]; exact sz, ef.2.2⟩, by rw [eRR, fk9, ef.1], by rw [eRR, fp9, ef.2.1], by rw [ef.1]; decide, by rw [ef.2.1]; decide⟩ ⟨by rw [eW]; exact vC.1, by rw [eW, vC.2.1, hf]⟩ ⟨by rw [bM0]; exact a2', lk.1, a5⟩ ⟨by rw [bM0, lk.2.1, a3], by rw [lk.2.1, ek]; exact kp9⟩ ⟨by rw [bM0]; exact l5, lk.2.2, l9⟩ (en_bk hb en cp bM) (Nat.le_trans l10 l9) (by rw [eW]; exact vC.2.2.1) ⟨by rw [eW]; exact vC.2.2.2, led, kno⟩
    have zr : zR (M9 1 4) := by unfold zR; omega
    exact ⟨⟨zr, by rw [← er]; exact zr⟩, er, Z⟩
  · rw [if_neg g0]
    obtain ⟨fk9, fp0, fp1⟩ := d3 g0
    refine ⟨zRd rfl, fun q => absurd rfl q, fun _ => ?_⟩
    have ths : M9 102 = M 102 := hi9 _ (by decide)
    refine r_rules (V := st0M M b n) (R := (g, M9)) (t := M 103) hb (by rw [ths]; omega) (by rw [ths]; omega) (hi9 _ (by decide)) t4 (wds_e (hi9 _ (by decide)) h.2.2.2.2) hV hv (fun M' fs fq => ?_) (fun Mm V' M' k2 a2 L kn o en cp => absurd (congrArg Prod.fst (en_R en)) g0)
    obtain ⟨RF, lo, kk, tz⟩ := ref_q fq
    obtain ⟨s1, s2, s3, s4⟩ := fs
    have low9 : ∀ x, x < 102 → M' x = M9 x := fun x hx => funext fun j => RF x j (by unfold jQ; omega)
    have F0 : ∀ x j, ¬ cF b x j → M' x j = M x j := fun x j hn => by
      have hj : ¬ jQ x j := fun q => hn (Or.inr (Or.inr (Or.inr (Or.inr (Or.inr q)))))
      have c : x ≠ 1 ∧ x ≠ 4 ∧ x ≠ 5 ∧ x ≠ 2 ∧ (x < b ∨ b + 5 < x) := by
        unfold cF jQ at hn
        omega
      obtain ⟨c1, c2, c3, c4, c5⟩ := c
      rw [RF x j hj, F9 x c1 c2 c3 c4 c5]
    have lo2 : lowE M M' := by
      obtain ⟨u1, u2, u3⟩ := lo
      rw [ths] at u1
      refine ⟨u1, fun i hi => ?_, fun i hi => ?_⟩
      · have := u2 i hi
        rw [hi9 120 (by decide), hi9 121 (by decide), hi9 122 (by decide)] at this
        exact this
      · have := u3 i hi
        unfold kEq at this ⊢
        rw [hi9 119 (by decide), hi9 113 (by decide), hi9 114 (by decide), hi9 115 (by decide), hi9 116 (by decide), hi9 117 (by decide), hi9 118 (by decide)] at this
        exact this
    rw [ths] at kk
    have eRR := low9 1 (by decide)
    have eT := low9 2 (by decide)
    have s3' : M' 102 15 = g := s3
    have s4' : M' 102 16 = M9 1 2 := s4
    refine ⟨⟨zRd rfl, zRd rfl⟩, rfl, k_fault h hbk F0 ⟨⟨by rw [eT]; exact sz, tz⟩, by rw [eRR, fk9, s3'], by rw [eRR, s4'], by rw [s3']; omega, by rw [s4']; omega⟩ lo2 kk⟩
theorem whole_law {E : zE} (hL : E.2.2.2.2.2.1 ≤ 3584) : zA E ([], fun _ _ => none, true) (0, 0) mL_law 0 [(0, .inr (.inr (-100)))] [] (fun _ _ => 0) (fun r _ _ => r = 1) :=
  law_pairs hL REL REL_0 (fun k M h hk => all_pairs (by omega) h (fun a ha => q_rules h ha)) (fun k M h => REL_up h)
