/-! pairs: best -/
theorem c_stepped2 {E : zE} {M : zM} {Q : Int → zM → Prop} {k w : Nat} (hA : RelA k M) (hs : rStp M) (hw : (w : Int) < M 102 58)
    (h : ∀ M' : zM, (∀ x j, dStp x j = false → M' x j = M x j) → rStp M' → M' (fid w) 4 = 1 → fcOk M' M' (fid w) w → (∀ w' : Nat, w' < 3 → M (fid w') 4 = 1 → M' (fid w') 4 = 1) → Q (fid w : Int) M') : zP E mX11_steppedForecast [.inr (.inr 0), .inl (w : Int)] M Q := by
  have hw3 : w < 3 := by
    obtain ⟨-, -, -, -, -, -, -, -, ⟨-, wr, -⟩, -⟩ := hA
    omega
  have hF : M 34 w = (fid w : Int) ∧ M 33 w = (wid w : Int) ∧ zIs_0 (fid w : Int) := by
    obtain ⟨⟨a0, a1, a2⟩, ⟨b0, b1, b2⟩, -⟩ := hA.1
    have : w = 0 ∨ w = 1 ∨ w = 2 := by omega
    rcases this with rfl | rfl | rfl
    · exact ⟨b0, a0, by unfold zIs_0 fid; simp⟩
    · exact ⟨b1, a1, by unfold zIs_0 fid; simp⟩
    · exact ⟨b2, a2, by unfold zIs_0 fid; simp⟩
  obtain ⟨hF1, hF2, hF3⟩ := hF
  refine vcX11_steppedForecast _ ?_
  have ce : (w : Int).toNat = w := Int.toNat_natCast w
  have fe : (fid w : Int).toNat = fid w := Int.toNat_natCast _
  rw [ce, hF1, hF2, fe]
  obtain ⟨s1, s2⟩ := hs w hw
  refine ⟨by omega, hF3, by rcases s1 with q | q <;> rw [q] <;> exact zRd rfl, fun q => ?_, fun q => ⟨by omega, ?_⟩⟩
  · have q1 : M (fid w) 4 = 1 := s1.resolve_left q
    exact h M (fun _ _ _ => rfl) hs q1 (s2 q1) (fun _ _ q2 => q2)
  · refine c_stepLava hA hF3 hw ?_
    intro M' g1 g2 g3 g4
    have fr : ∀ x j, dStp x j = false → M' x j = M x j := fun x j hd => by
      obtain ⟨x1, x2, x3, x4, x5, x6, x0⟩ := dStp_fid hw3 x j hd
      by_cases hx : x = fid w
      · obtain ⟨j1, j2⟩ := x0 hx
        subst hx
        exact g2 j j1 j2
      · rw [g1 x hx x1 x2 x3 x4 x5 x6]
    have keepS : ∀ w' : Nat, w' < 3 → M (fid w') 4 = 1 → M' (fid w') 4 = 1 := fun w' hw4 q2 => by
      by_cases hww : w' = w
      · rw [hww]; exact g3
      · have ne : ∀ i', i' ≤ 6 → fid w' ≠ fid w + i' := by
          intro i' hi'
          rcases fid3 hw3 with ⟨a, e⟩ | ⟨a, e⟩ | ⟨a, e⟩ <;> rcases fid3 hw4 with ⟨b, e'⟩ | ⟨b, e'⟩ | ⟨b, e'⟩ <;> omega
        rw [g1 _ (ne 0 (by omega)) (ne 1 (by omega)) (ne 2 (by omega)) (ne 3 (by omega)) (ne 4 (by omega)) (ne 5 (by omega)) (ne 6 (by omega))]
        exact q2
    refine h M' fr ?_ g3 (fc_st2 fr g4) keepS
    intro w' hw'
    rw [fr 102 58 rfl] at hw'
    by_cases hww : w' = w
    · subst hww
      exact ⟨Or.inr g3, fun _ => fc_st2 fr g4⟩
    · have hw4 : w' < 3 := by
        obtain ⟨-, -, -, -, -, -, -, -, ⟨-, wr, -⟩, -⟩ := hA
        omega
      have ne : ∀ i, i ≤ 6 → ∀ i', i' ≤ 6 → fid w' + i ≠ fid w + i' := by
        intro i hi i' hi'
        rcases fid3 hw3 with ⟨a, e⟩ | ⟨a, e⟩ | ⟨a, e⟩ <;> rcases fid3 hw4 with ⟨b, e'⟩ | ⟨b, e'⟩ | ⟨b, e'⟩ <;> omega
      have same : ∀ i, i ≤ 6 → M' (fid w' + i) = M (fid w' + i) := fun i hi => g1 _ (ne i hi 0 (by omega)) (ne i hi 1 (by omega)) (ne i hi 2 (by omega)) (ne i hi 3 (by omega)) (ne i hi 4 (by omega)) (ne i hi 5 (by omega)) (ne i hi 6 (by omega))
      have s0 : M' (fid w') = M (fid w') := same 0 (by omega)
      obtain ⟨t1, t2⟩ := hs w' hw'
      rw [s0]
      exact ⟨t1, fun q5 => fc_st fr (same 1 (by omega)) (same 2 (by omega)) (same 3 (by omega)) (by rw [s0]) (t2 q5)⟩
theorem c_buriedCost2 {E : zE} {M : zM} {Q : Int → zM → Prop} {k : Nat} (hA : RelA k M) (hc : cch M)
    (h : ∀ M' : zM, (∀ x j, dK x j = false → M' x j = M x j) → RelA k M' → cch M' → (∀ w : Nat, w < 3 → M' (fid w) 10 = M (fid w) 10) → (∀ w : Nat, (w : Int) < M 102 58 → M' (fid w) 4 = 1) → Q (cbF M (M 102 58).toNat) M') : zP E mX11_buriedCost [.inr (.inr 0)] M Q := by
  obtain ⟨-, -, -, -, -, -, -, -, ⟨wc, wr, wwf, wb⟩, -⟩ := id hA
  obtain ⟨W, hW⟩ : ∃ W : Nat, M 102 58 = (W : Int) := ⟨(M 102 58).toNat, by omega⟩
  rw [hW, Int.toNat_natCast] at h
  refine vcX11_buriedCost (fun m l1 l2 M' => ∃ w : Nat, l2 = (w : Int) ∧ w ≤ W ∧ m = 10 - w ∧ (∀ x j, dK x j = false → M' x j = M x j) ∧ cch M' ∧ (∀ w : Nat, w < 3 → M' (fid w) 10 = M (fid w) 10) ∧ (∀ w' : Nat, w' < w → M' (fid w') 4 = 1) ∧ l1 = cbF M w) ⟨10 - 0, 0, rfl, by omega, rfl, fun _ _ _ => rfl, hc, fun _ _ => rfl, fun w' hw' => by omega, rfl⟩ ?_
  rintro m l1 l2 M' ⟨w, rfl, hw, rfl, f', hc', hl', hst', rfl⟩
  have hA' := K_rel hA f'
  have b' := K_bs f'
  have ew : M' 0 11 = (W : Int) := by rw [f' 0 11 rfl, wc, hW]
  rw [ew]
  refine ⟨⟨by unfold zR; omega, by unfold zR; omega⟩, fun q => ?_, fun q => ?_⟩
  · have : w = W := by omega
    subst this
    exact h M' f' hA' hc' hl' (fun w' hw' => hst' w' (by omega))
  · have w3 : w < 3 := by omega
    have hF3 : zIs_0 (fid w : Int) := by
      rcases fid3 w3 with ⟨-, e⟩ | ⟨-, e⟩ | ⟨-, e⟩ <;> rw [e] <;> unfold zIs_0 <;> simp
    have hWl : M' 33 w = (wid w : Int) := by
      obtain ⟨⟨a0, a1, a2⟩, -⟩ := hA'.1
      have : w = 0 ∨ w = 1 ∨ w = 2 := by omega
      rcases this with rfl | rfl | rfl
      · exact a0
      · exact a1
      · exact a2
    have ewt : M' (wid w) 4 = M 136 w := by
      obtain ⟨-, -, -, -, -, -, -, -, ⟨-, -, wwf', -⟩, -⟩ := hA'
      rw [(wwf' w w3).2.2.2.2]
      exact b' _ _ (by decide) rfl
    rw [Int.toNat_natCast, hWl, Int.toNat_natCast, ewt]
    refine ⟨by omega, (wid3 w3).1, ?_⟩
    refine c_stepped2 hA' hc'.2.1 (by rw [b' _ _ (by decide) rfl, hW]; omega) ?_
    intro M2 f2 s2 st2 ok2 keepS
    have fK := fr_sub dStp_K f2
    have b2' := K_bs fK
    have fr2 := fr_t f' fK
    have b2 := K_bs fr2
    have same : ∀ w' : Nat, w' < 3 → M2 (fid w') 8 = M' (fid w') 8 ∧ M2 (fid w') 10 = M' (fid w') 10 ∧ M2 (fid w' + 7) = M' (fid w' + 7) := fun w' hw' => by
      rcases fid3 hw' with ⟨-, e⟩ | ⟨-, e⟩ | ⟨-, e⟩ <;> rw [e] <;> exact ⟨f2 _ _ rfl, f2 _ _ rfl, funext fun j => f2 _ j rfl⟩
    have eB : M2 (fid w) 3 = brF M w := by
      rw [ok2.2.2]
      exact bs_br b2 w
    rw [Int.toNat_natCast, eB]
    exact ⟨hF3, 10 - (w + 1), by omega, w + 1, by omega, by omega, rfl, fr2, ⟨K_cch hA' fK hc'.1, s2, rLed_e hA' b2' same hc'.2.2⟩, fun w' hw' => by rw [(same w' hw').2.1]; exact hl' w' hw', fun w' hw' => by
      by_cases q2 : w' = w
      · rw [q2]; exact st2
      · exact keepS w' (by omega) (hst' w' (by omega)), rfl⟩
theorem X_all {k : Nat} {M M' : zM} (hA : RelA k M) (hc : cch M) (f : ∀ x, x < 102 → ¬ (57 ≤ x ∧ x ≤ 65) → ¬ (35 ≤ x ∧ x ≤ 43) → (x ≠ 99 ∧ x ≠ 100 ∧ x ≠ 101) → M' x = M x) (g : ∀ x, 102 ≤ x → M' x = M x) : RelA k M' ∧ cch M' := by
  have b := bs_hi g
  have e := bs_eq b
  have fA : ∀ x j, dAll x j = true → M' x j = M x j := fun x j hx => by
    by_cases hlt : x < 102
    · have nC : dC x j ≠ true := fun q => by
        rw [dC_all x j hx] at q
        cases q
      have n : ¬ ((57 ≤ x ∧ x ≤ 65) ∨ (35 ≤ x ∧ x ≤ 43) ∨ (70 ≤ x ∧ x ≤ 78) ∨ (80 ≤ x ∧ x ≤ 88) ∨ (90 ≤ x ∧ x ≤ 98)) := fun q => nC (dC_of q)
      have np : ∀ y, x = y → dAll y j = false → False := fun y h1 h2 => by
        rw [h1] at hx
        rw [hx] at h2
        cases h2
      rw [f x hlt (by omega) (by omega) ⟨fun q => np _ q rfl, fun q => np _ q rfl, fun q => np _ q rfl⟩]
    · rw [g x (by omega)]
  have ew : M' 0 = M 0 := f _ (by decide) (by decide) (by decide) (by decide)
  obtain ⟨h1, h2, h3⟩ := hc
  have hA' : RelA k M' := by
    refine rel_c fA ?_ hA
    have kp := hA.2.2.2.2.2.2.2.2.2.2.2.2.2
    unfold rKpt at kp ⊢
    rw [ew]
    exact kp
  obtain ⟨bf, hbk, ff, -⟩ := bk_id hA
  have same : ∀ w : Nat, w < 3 → ∀ i, i ≤ 8 → M' (fid w + i) = M (fid w + i) := fun w hw i hi => by
    rcases fid3 hw with ⟨-, e⟩ | ⟨-, e⟩ | ⟨-, e⟩ <;> rw [e] <;> exact f _ (by omega) (by omega) (by omega) (by omega)
  refine ⟨hA', ⟨rBok_e e.2 (by rw [ew]) (fun i i1 i2 => ?_) (fun j j1 j2 => by rw [f 26 (by decide) (by decide) (by decide) (by decide)]; exact h1.1.1 j j1 j2) h1.1, rRaw_e e (by rw [ew]) (f _ (by decide) (by decide) (by decide) (by decide)) h1.2.1, rWrn_e e (funext fun j => b _ j (by decide) rfl) (funext fun j => b _ j (by decide) rfl) (b _ _ (by decide) rfl) (funext fun j => b _ j (by decide) rfl) (by rw [ew]) (f _ (by decide) (by decide) (by decide) (by decide)) h1.2.2⟩, rStp_e hA b (fun w hw => ?_) h2, rLed_e hA b (fun w hw => ?_) h3⟩
  · rw [hbk, Int.toNat_natCast]
    exact f _ (by omega) (by omega) (by omega) (by omega)
  · rw [show M' (fid w) = M (fid w) from same w hw 0 (by omega)]
    exact ⟨rfl, rfl, fun i i1 i2 => same w hw i (by omega)⟩
  · rw [show M' (fid w) = M (fid w) from same w hw 0 (by omega)]
    exact ⟨rfl, rfl, same w hw 7 (by omega)⟩
/-- the plans kept -/
def plid (m : Nat) : Nat := if m = 0 then 99 else if m = 1 then 100 else 101
def rPln (M : zM) : Prop := ∀ m : Nat, m < 3 → (M (plid m) 0 = 0 ∨ M (plid m) 0 = 1) ∧ (M (plid m) 0 = 1 → plS (plid m) (bst M m) M)
theorem plid3 {m : Nat} (hm : m < 3) : zIs_4 (plid m : Int) := by
  have : m = 0 ∨ m = 1 ∨ m = 2 := by omega
  rcases this with rfl | rfl | rfl <;> unfold zIs_4 plid <;> simp
theorem plid_ne {m m' : Nat} (hm : m < 3) (hm' : m' < 3) (h : m ≠ m') : plid m ≠ plid m' := by
  have : m = 0 ∨ m = 1 ∨ m = 2 := by omega
  have : m' = 0 ∨ m' = 1 ∨ m' = 2 := by omega
  unfold plid
  split <;> split <;> (try split) <;> (try split) <;> omega
theorem fix_p {M : zM} (h : zFix M) {m : Nat} (hm : m < 3) : M 66 m = (plid m : Int) := by
  obtain ⟨-, -, a0, a1, a2⟩ := h
  have : m = 0 ∨ m = 1 ∨ m = 2 := by omega
  rcases this with rfl | rfl | rfl
  · exact a0
  · exact a1
  · exact a2
theorem rPln_e {k : Nat} {M M' : zM} (hA : RelA k M) (b : bs M M') (e : ∀ m, m < 3 → M' (plid m) = M (plid m)) (h : rPln M) : rPln M' := fun m hm => by
  obtain ⟨h1, h2⟩ := h m hm
  unfold plS at h2 ⊢
  rw [e m hm, bst_bs (refOk_A hA) b]
  exact ⟨h1, h2⟩
theorem rCnd_e {M M' : zM} (b : bs M M') (h : rCnd M) : rCnd M' := by
  unfold rCnd at h ⊢
  rw [b 102 96 (by decide) rfl, b 102 51 (by decide) rfl, b 102 52 (by decide) rfl]
  intro i hi
  rw [b 162 i (by decide) rfl]
  exact h i hi
def bstV (s : zS4) (t : Int) : Int := if t = 0 then manyS s else if t = 1 then s.1 else if t = 2 then s.2.1 else if t = 3 then s.2.2.1 else s.2.2.2
theorem c_planPart {E : zE} {M : zM} {Q : Int → zM → Prop} {p : Nat} {s : zS4} {t : Int} (hp : zIs_4 (p : Int)) (hs : sOk s) (pl : plS p s M) (ht : 0 ≤ t ∧ t ≤ 4) (h : Q (bstV s t) M) : zP E mX4_part [.inr (.inr (p : Int)), .inl t] M Q := by
  obtain ⟨p1, p2, p3, p4⟩ := pl
  obtain ⟨s1, s2, s3, s4⟩ := hs
  refine vcX4_part _ _ hp ?_
  rw [Int.toNat_natCast, p1, p2, p3, p4]
  unfold bstV manyS at h
  refine ⟨by unfold zR; omega, fun q => by omega, fun q => ⟨by unfold zR; omega, fun q1 => ⟨by unfold zR; omega, fun q2 => ?_, fun q2 => ?_⟩, fun q1 => ?_⟩, fun q => ?_, fun q => ?_, fun q => ?_, fun q => ?_⟩
  · rw [if_pos q, if_neg q1, if_neg q2] at h; exact h
  · rw [if_pos q, if_neg q1, if_pos q2] at h; exact h
  · rw [if_pos q, if_pos q1] at h; exact h
  · rw [if_neg (by omega), if_pos q] at h; exact h
  · rw [if_neg (by omega), if_neg (by omega), if_pos q] at h; exact h
  · rw [if_neg (by omega), if_neg (by omega), if_neg (by omega), if_pos q] at h; exact h
  · rw [if_neg (by omega), if_neg (by omega), if_neg (by omega), if_neg (by omega)] at h; exact h
theorem bstV_r {s : zS4} (hs : sOk s) (t : Int) : zR (bstV s t) := by
  obtain ⟨s1, s2, s3, s4⟩ := hs
  have m := many_r s
  unfold bstV zR
  split
  · omega
  · split
    · omega
    · split
      · omega
      · split <;> omega
set_option maxHeartbeats 8000000 in
theorem q_best {E : zE} {k0 : Nat} {M : zM} {P' : zM → Prop} {m t : Int} (hk : k0 ≤ 600) (hA : RelA k0 M) (hc : cch M) (hcd : rCnd M) (hpn : rPln M) (h1 : zR m) (h2 : zR t)
    (h : ∀ M' : zM, RelA k0 M' → cch M' → rCnd M' → rPln M' → bs M M' → P' M') : zPP E mX11_best mX12_best [.inl m, .inl t] M P' := by
  have ref : ∀ (M1 : zM) (v : Int), bs M M1 → RelA k0 M1 → cch M1 → rCnd M1 → rPln M1 → zR v → v = (if (0 ≤ m ∧ m ≤ 2) ∧ (0 ≤ t ∧ t ≤ 4) then bstV (bst M1 m) t else -1) → zP E mX12_best [.inr (.inr 102), .inl m, .inl t] M1 (fun r2 M2 => (zR v ∧ zR r2) ∧ v = r2 ∧ P' M2) := by
    intro M1 v b1 hA1 hc1 hcd1 hpn1 zv hv
    have fin : ∀ M3, bs M1 M3 → fw M1 M3 → P' M3 := fun M3 b3 w3 => by
      have f3 : ∀ x j, dRf x j = false → M3 x j = M1 x j := fun x j hd => by
        by_cases q1 : x = 130
        · rw [q1]; exact b3 _ _ (by decide) rfl
        · by_cases q2 : x = 131
          · rw [q2]; exact b3 _ _ (by decide) rfl
          · by_cases q3 : x = 102 ∧ j = 57
            · rw [q3.1, q3.2]; exact b3 _ _ (by decide) rfl
            · exact w3 x j hd q1 q2 (by omega)
      obtain ⟨c1, c2⟩ := Rf_all hA1 hc1 f3
      exact h M3 c1 c2 (rCnd_e b3 hcd1) (rPln_e hA1 b3 (fun m hm => funext fun j => f3 _ j (dRf_lo (by
        have := pid (plid3 hm)
        omega))) hpn1) (bs_t b1 b3)
    by_cases g : (0 ≤ m ∧ m ≤ 2) ∧ (0 ≤ t ∧ t ≤ 4)
    · rw [if_pos g] at hv
      obtain ⟨g1, g2⟩ := g
      have hO := refOk_A hA1
      obtain ⟨-, -, -, -, -, -, -, ⟨k1, k2, k3, k4, k5, k6⟩, -, -, -, -, ⟨-, -, -, -, j4, -⟩, -⟩ := id hA1
      refine r_bestQ (M := M1) hO (fun n hn => mxW_r (g := fun i => rawF M1 (i : Nat) (i : Nat)) (fun i => raw_r hc1.1.1 j4.1 _ _) (n - (M1 102 34).toNat) (n + 1 - (n - (M1 102 34).toNat))) (by omega) k4 k6 g1 g2 (fun Q' hQ => r_allLevels hA1 hc1.1.1 (fr_up rfl) (fun M3 f3 l3 => hQ M3 (bs_fr (V_Rf f3)) (V_Rf f3) l3)) ?_
      intro M9 b9 lo9
      have e : bstV (bst M1 m) t = (if t = 0 then manyS (bst M1 m) else if t = 1 then (bst M1 m).1 else if t = 2 then (bst M1 m).2.1 else if t = 3 then (bst M1 m).2.2.1 else (bst M1 m).2.2.2) := rfl
      rw [← e, ← hv]
      exact q_end zv (fin M9 b9 lo9)
    · rw [if_neg g] at hv
      subst hv
      refine vcX12_best _ _ (fun _ _ _ _ _ => False) (fun _ _ _ _ _ => False) (fun _ _ _ _ _ _ => False) ?_ (fun _ _ _ _ _ q => q.elim) (fun _ _ _ _ _ q => q.elim) (fun _ _ _ _ _ _ q => q.elim)
      intro M2 hM2
      have f2 : ∀ x j, dRf x j = false → M2 x j = M1 x j := by rw [hM2]; exact fr_up rfl
      have fin2 := fin M2 (bs_fr f2) (fun x j hd _ _ _ => f2 x j hd)
      refine r_isIn h1 (zRd rfl) (zRd rfl) ?_
      by_cases g1 : 0 ≤ m ∧ m ≤ 2
      · rw [if_pos g1]
        refine ⟨zRd rfl, fun q => absurd q (by decide), fun _ => ?_⟩
        refine r_isIn h2 (zRd rfl) (zRd rfl) ?_
        rw [if_neg (fun q => g ⟨g1, q⟩)]
        exact ⟨zRd rfl, fun q => absurd rfl q, fun _ => q_end zv fin2⟩
      · rw [if_neg g1]
        exact ⟨zRd rfl, fun _ => q_end zv fin2, fun q => absurd rfl q⟩
  refine vcX11_best _ _ ?_
  refine c_within h1 (zRd rfl) (zRd rfl) ?_
  by_cases g1 : 0 ≤ m ∧ m ≤ 2
  · rw [if_pos g1]
    refine ⟨zRd rfl, fun q => absurd q (by decide), fun _ => ?_⟩
    refine c_within h2 (zRd rfl) (zRd rfl) ?_
    by_cases g2 : 0 ≤ t ∧ t ≤ 4
    · rw [if_pos g2]
      refine ⟨zRd rfl, fun _ => ⟨by omega, ?_⟩, fun q => absurd q (by decide)⟩
      obtain ⟨n, hn, n3⟩ : ∃ n : Nat, m = (n : Int) ∧ n < 3 := ⟨m.toNat, by omega, by omega⟩
      subst hn
      have hp := plid3 n3
      have qp := pid hp
      have ep : M 66 n = (plid n : Int) := fix_p hA.1 n3
      rw [Int.toNat_natCast, ep, Int.toNat_natCast]
      obtain ⟨kn1, kn2⟩ := hpn n n3
      have cdr : ∀ M1, RelA k0 M1 → 0 ≤ M1 102 96 ∧ M1 102 96 ≤ 6 := fun M1 hA1 => hA1.2.2.2.2.2.2.2.1.2.2.2.1
      refine ⟨hp, by rcases kn1 with q | q <;> rw [q] <;> exact zRd rfl, fun q => ?_, fun q => ?_⟩
      · have ok := bst_ok (refOk_A hA) (cdr M hA) (n : Int)
        refine c_planPart hp ok (kn2 (kn1.resolve_left q)) g2 ?_
        exact ref M _ (bs_r M) hA hc hcd hpn (bstV_r ok t) (by rw [if_pos ⟨g1, g2⟩])
      · refine c_noteWarnings hA hc.1.1 hc.1.2.1 hc.1.2.2 ?_
        intro M1 f1 t1 k1 r1 n1 w1
        obtain ⟨hA1, hc1⟩ := W_all hA hc f1 t1 k1 r1 w1
        refine c_lostCost hA1 hc1 n1 ?_
        intro M2 f2 hA2 hc2 ok2
        refine c_buriedCost2 hA2 hc2 ?_
        intro M3 f3 hA3 hc3 led3 st3
        have b2 := K_bs f2
        have b3 := K_bs f3
        have n3' : M3 0 7 = 1 := by rw [f3 0 7 rfl, f2 0 7 rfl]; exact n1
        have b13 := bs_t b2 b3
        have ew3 : M3 102 58 = M1 102 58 := b13 _ _ (by decide) rfl
        have ew2 : M2 102 58 = M1 102 58 := b2 _ _ (by decide) rfl
        have ecl : clF M1 (M1 102 58).toNat = clF M3 (M3 102 58).toNat := by rw [ew3, (bs_costO (refOk_A hA1) b13 _).1]
        have ecb : cbF M2 (M2 102 58).toNat = cbF M3 (M3 102 58).toNat := by rw [ew3, ew2, (bs_costO (refOk_A hA2) b3 _).2]
        have hfc : ∀ w : Nat, (w : Int) < M3 102 58 → fcOk M3 M3 (fid w) w ∧ ldOk M3 (fid w) w := fun w hw => by
          have w3 : w < 3 := by
            obtain ⟨-, -, -, -, -, -, -, -, ⟨-, wr, -⟩, -⟩ := hA3
            omega
          refine ⟨(hc3.2.1 w hw).2 (st3 w (by omega)), (hc3.2.2 w hw).2 ?_⟩
          rw [led3 w w3]
          exact (ok2 w (by omega)).1
        have epl : ∀ i, i < 3 → M3 (plid i) = M (plid i) := fun i hi => by
          have qi := pid (plid3 hi)
          funext j
          rw [K_lo f3 (by omega) (by rcases qi with e | e | e <;> rw [e] <;> rfl), K_lo f2 (by omega) (by rcases qi with e | e | e <;> rw [e] <;> rfl)]
          rcases qi with e | e | e <;> rw [e] <;> exact f1 _ j rfl
        have b03 : bs M M3 := bs_t (bs_hi (W_hi f1)) b13
        have hcd3 := rCnd_e b03 hcd
        have hpn3 := rPln_e hA b03 epl hpn
        rw [ecl, ecb]
        refine vcX4_start _ _ _ hp ?_
        rw [Int.toNat_natCast]
        intro M4 h4 M5 h5 M6 h6 M7 h7
        have lo7 : ∀ x, x ≠ plid n → M7 x = M3 x := fun x hx => by rw [h7, zup_ne _ _ _ hx, h6, zup_ne _ _ _ hx, h5, zup_ne _ _ _ hx, h4, zup_ne _ _ _ hx]
        have pl7 : plS (plid n) (bst0 M3) M7 := by
          subst h4 h5 h6 h7
          simp [plS, zup_q, bst0]
        have kn7 : M7 (plid n) 0 = 0 := by
          rw [h7, zup_q, if_neg (fun q5 => absurd q5.2 (by decide)), h6, zup_q, if_neg (fun q5 => absurd q5.2 (by decide)), h5, zup_q, if_neg (fun q5 => absurd q5.2 (by decide)), h4, zup_q, if_neg (fun q5 => absurd q5.2 (by decide)), epl n n3]
          exact q
        have cI7 : cI M3 (plid n) M3 (bst0 M3) M7 := ⟨fun x _ hk2 => lo7 x hk2.2.2, fun x hx => lo7 x (by omega), pl7⟩
        refine c_tryMore (W := 0) hk hA3 n3' hc3.1.2.2 hfc hcd3 g1 hp cI7 ?_
        intro M9 c9
        have lo9 : ∀ x, x < 102 → ¬ (57 ≤ x ∧ x ≤ 65) → ¬ (35 ≤ x ∧ x ≤ 43) → x ≠ plid n → zup M9 (plid n) 0 1 x = M3 x := fun x hx a1 a2 a3 => by
          rw [zup_ne _ _ _ a3]
          exact c9.1 x hx ⟨a1, a2, a3⟩
        have hi9 : ∀ x, 102 ≤ x → zup M9 (plid n) 0 1 x = M3 x := fun x hx => by
          rw [zup_ne _ _ _ (by omega)]
          exact c9.2.1 x hx
        have b9 := bs_hi hi9
        obtain ⟨hA9, hc9⟩ := X_all hA3 hc3 (fun x hx a1 a2 a3 => lo9 x hx a1 a2 (by omega)) hi9
        have eb := bst_bs (refOk_A hA3) b9
        have pl9 : plS (plid n) (bst M3 n) (zup M9 (plid n) 0 1) := by
          obtain ⟨s1, s2, s3, s4⟩ := c9.2.2
          unfold plS
          rw [zup_q, if_neg (fun q5 => absurd q5.2 (by decide)), zup_q, if_neg (fun q5 => absurd q5.2 (by decide)), zup_q, if_neg (fun q5 => absurd q5.2 (by decide)), zup_q, if_neg (fun q5 => absurd q5.2 (by decide))]
          exact ⟨s1, s2, s3, s4⟩
        have hpn9 : rPln (zup M9 (plid n) 0 1) := fun i hi => by
          by_cases q2 : i = n
          · subst q2
            rw [zup_q, if_pos ⟨rfl, rfl⟩, eb]
            exact ⟨Or.inr rfl, fun _ => pl9⟩
          · have ne := plid_ne hi n3 q2
            have qi := pid (plid3 hi)
            have el := lo9 (plid i) (by omega) (by omega) (by omega) ne
            obtain ⟨x1, x2⟩ := hpn3 i hi
            unfold plS at x2 ⊢
            rw [el, eb]
            exact ⟨x1, x2⟩
        have ok := bst_ok (refOk_A hA3) (cdr M3 hA3) (n : Int)
        refine c_planPart hp ok pl9 g2 ?_
        exact ref _ _ (bs_t b03 b9) hA9 hc9 (rCnd_e b9 hcd3) hpn9 (bstV_r ok t) (by rw [if_pos ⟨g1, g2⟩, eb])
    · rw [if_neg g2]
      exact ⟨zRd rfl, fun q => absurd rfl q, fun _ => ref M _ (bs_r M) hA hc hcd hpn (zRd rfl) (by rw [if_neg (fun q => g2 q.2)])⟩
  · rw [if_neg g1]
    exact ⟨zRd rfl, fun _ => ref M _ (bs_r M) hA hc hcd hpn (zRd rfl) (by rw [if_neg (fun q => g1 q.1)]), fun q => absurd rfl q⟩
