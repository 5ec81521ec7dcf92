/-! pairs: tries, level, warned -/
theorem q_tries {E : zE} {k0 : Nat} {M : zM} {P' : zM → Prop} {i hr k : Int} (hA : RelA k0 M) (hc : vCch M) (h0 : zR i) (h1 : zR hr) (h2 : zR k)
    (h : ∀ M' : zM, RelA k0 M' → vCch M' → (∀ x j, dX x j = false → M' x j = M x j) → P' M') : zPL E mX11_tries mX12_tries [.inl i, .inl hr, .inl k] M P' := by
  obtain ⟨f, hbk, ff, hf⟩ := bk_id hA
  obtain ⟨j0, j1, j2, j3, j4, j5, j6⟩ := hA.2.2.2.2.2.2.2.2.2.2.2.2.1
  rw [hbk, Int.toNat_natCast] at j1
  have q_endL : ∀ {r : Int} {P' : Prop}, zL r → P' → (zL r ∧ zL r) ∧ r = r ∧ P' := fun a b => ⟨⟨a, a⟩, rfl, b⟩
  have nvL : zL (-9223372036854775808) := by unfold zL; omega
  have ref : ∀ (M1 : zM) (v : Int), RelA k0 M1 → vCch M1 → (∀ x j, dX x j = false → M1 x j = M x j) → zL v → M1 102 32 = M 102 32 → v = (if (0 ≤ i ∧ i < M 102 32) ∧ (0 ≤ hr ∧ hr ≤ 99) ∧ (0 ≤ k ∧ k ≤ 99) then lineF M1 k hr i.toNat else -9223372036854775808) → zP E mX12_tries [.inr (.inr 102), .inl i, .inl hr, .inl k] M1 (fun r2 M2 => (zL v ∧ zL r2) ∧ v = r2 ∧ P' M2) := by
    intro M1 v hA1 hc1 f1 zv el hv
    refine vcX12_tries _ _ _ ?_
    intro M2 h2'
    have f2 : ∀ x j, dV x j = false → M2 x j = M1 x j := by rw [h2']; exact fr_up rfl
    have fin : ∀ M3, (∀ x j, dV x j = false → M3 x j = M1 x j) → P' M3 := fun M3 f3 => h M3 (V_rel hA1 f3) (V_cch hA1 f3 hc1) (fr_t f1 (fr_sub dV_X f3))
    have no : ¬ ((0 ≤ i ∧ i < M 102 32) ∧ (0 ≤ hr ∧ hr ≤ 99) ∧ (0 ≤ k ∧ k ≤ 99)) → (zL v ∧ zL (-9223372036854775808)) ∧ v = -9223372036854775808 ∧ P' M2 := fun q => by
      rw [if_neg q] at hv
      subst hv
      exact q_endL zv (fin M2 f2)
    rw [f2 102 32 rfl, el]
    refine ⟨h0, fun q => no (fun q2 => by omega), fun q => ⟨⟨h0, by unfold zR; omega⟩, fun q2 => no (fun q3 => by omega), fun q2 => ?_⟩⟩
    refine r_isHour h1 ?_
    by_cases g1 : 0 ≤ hr ∧ hr ≤ 99
    · rw [if_pos g1]
      refine ⟨zRd rfl, fun q3 => absurd q3 (by decide), fun _ => ?_⟩
      refine r_isHour h2 ?_
      by_cases g2 : 0 ≤ k ∧ k ≤ 99
      · rw [if_pos g2]
        rw [if_pos ⟨⟨q, q2⟩, g1, g2⟩] at hv
        refine ⟨zRd rfl, fun _ => ?_, fun q3 => absurd q3 (by decide)⟩
        have hA2 := V_rel hA1 f2
        have hR2 := hA2.2.2.2.2.2.1
        refine r_know h2 hR2.2.1 ?_
        intro M3 g3 k1 k2
        obtain ⟨n, hn⟩ : ∃ n : Nat, i = (n : Int) := ⟨i.toNat, by omega⟩
        subst hn
        rw [Int.toNat_natCast] at hv
        have e2 := V_eq f2
        refine r_lineV (M := M2) (k := k) hA2 (V_cch hA1 f2 hc1).1 (by rw [f2 102 32 rfl, el]; exact q2) ⟨k1, k2⟩ (fun y y1 y2 _ => g3 y y1 y2) g1 ?_
        intro M4 f4
        rw [lineF_e (e2.1 _) e2.2, ← hv]
        have fr4 : ∀ x j, dV x j = false → M4 x j = M2 x j := rv_V (fun y y1 y2 y3 => by rw [f4 y y3, g3 y y1 y2])
        exact q_endL zv (fin M4 (fr_t f2 fr4))
      · rw [if_neg g2]
        exact ⟨zRd rfl, fun q3 => absurd rfl q3, fun _ => no (fun q3 => g2 q3.2.2)⟩
    · rw [if_neg g1]
      exact ⟨zRd rfl, fun _ => no (fun q3 => g1 q3.2.1), fun q3 => absurd rfl q3⟩
  refine vcX11_tries _ _ _ ?_
  rw [hbk, Int.toNat_natCast, j1]
  refine ⟨hf, ?_⟩
  refine c_within h0 (zRd rfl) (by unfold zR; omega) ?_
  by_cases g0 : 0 ≤ i ∧ i ≤ M 102 32 - 1
  · rw [if_pos g0]
    refine ⟨zRd rfl, fun q => absurd q (by decide), fun _ => ?_⟩
    refine c_isHour h1 ?_
    by_cases g1 : 0 ≤ hr ∧ hr ≤ 99
    · rw [if_pos g1]
      refine ⟨zRd rfl, fun q => absurd q (by decide), fun _ => ?_⟩
      refine c_isHour h2 ?_
      by_cases g2 : 0 ≤ k ∧ k ≤ 99
      · rw [if_pos g2]
        refine ⟨zRd rfl, fun _ => ?_, fun q => absurd q (by decide)⟩
        rw [hbk]
        refine ⟨hf, ?_⟩
        obtain ⟨n, hn⟩ : ∃ n : Nat, i = (n : Int) := ⟨i.toNat, by omega⟩
        subst hn
        obtain ⟨-, ⟨st, a2⟩, a3⟩ := hc.1.2 n (by omega)
        rw [hbk, Int.toNat_natCast] at a3
        have hR := hA.2.2.2.2.2.1
        have hP := hA.2.2.2.2.1
        refine c_value hf hR hP hc.1.1 g1 h2 (by omega) a2 a3 ?_
        intro M1 hv
        obtain ⟨a1, a2', a3'⟩ := vF_cch hA hbk ff hv hc
        have e := hi_eq (vFr_hi ff hv)
        exact ref M1 _ a1 a2' a3' (okb_L (lineF_ok hR.2.1 hP.2.1 g1 a2)) (by rw [vFr_hi ff hv 102 (by decide)]) (by rw [if_pos ⟨by omega, g1, g2⟩, Int.toNat_natCast, lineF_e (e.1 _) e.2])
      · rw [if_neg g2]
        exact ⟨zRd rfl, fun q => absurd rfl q, fun _ => ref M _ hA hc (fun _ _ _ => rfl) nvL rfl (by rw [if_neg (fun q => g2 q.2.2)])⟩
    · rw [if_neg g1]
      exact ⟨zRd rfl, fun _ => ref M _ hA hc (fun _ _ _ => rfl) nvL rfl (by rw [if_neg (fun q => g1 q.2.1)]), fun q => absurd rfl q⟩
  · rw [if_neg g0]
    exact ⟨zRd rfl, fun _ => ref M _ hA hc (fun _ _ _ => rfl) nvL rfl (by rw [if_neg (fun q => by omega)]), fun q => absurd rfl q⟩
/-- what noting raws and warnings leaves -/
theorem W_cch {k : Nat} {M M' : zM} (hA : RelA k M) (hB : rBok M) (f : ∀ x j, dW x j = false → M' x j = M x j) (ht : tlOk M') (hk : rKpt M') (hr : rRaw M') (hw : rWrn M') : RelA k M' ∧ vCch M' ∧ (∀ x j, dX x j = false → M' x j = M x j) := ⟨W_rel hA f hk, ⟨W_bok hA f ht hB, hr, hw⟩, fr_sub dW_X f⟩
theorem E_cch {k : Nat} {M M' : zM} (hA : RelA k M) (hc : vCch M) (f : ∀ x j, dE x j = false → M' x j = M x j) (ht : tlOk M') (hk : 0 ≤ M' 0 6 ∧ M' 0 6 ≤ 100) (hr : rRaw M') : RelA k M' ∧ vCch M' ∧ (∀ x j, dX x j = false → M' x j = M x j) := by
  have fW := fr_sub dE_W f
  have hi := W_hi fW
  have kp := hA.2.2.2.2.2.2.2.2.2.2.2.2.2
  exact W_cch hA hc.1 fW ht ⟨hk, by rw [f 0 7 rfl]; exact kp.2⟩ hr (rWrn_e (hi_eq hi) (hi _ (by decide)) (hi _ (by decide)) (by rw [hi 102 (by decide)]) (hi _ (by decide)) (f _ _ rfl) (funext fun j => f _ j rfl) hc.2.2)
set_option maxHeartbeats 4000000 in
theorem q_level {E : zE} {k0 : Nat} {M : zM} {P' : zM → Prop} {hr : Int} (hA : RelA k0 M) (hc : vCch M) (h1 : zR hr)
    (h : ∀ M' : zM, RelA k0 M' → vCch M' → (∀ x j, dX x j = false → M' x j = M x j) → P' M') : zPP E mX11_level mX12_level [.inl hr] M P' := by
  obtain ⟨f, hbk, ff, hf⟩ := bk_id hA
  obtain ⟨j0, j1, j2, j3, j4, j5, j6⟩ := hA.2.2.2.2.2.2.2.2.2.2.2.2.1
  rw [hbk, Int.toNat_natCast] at j2
  obtain ⟨kp, hkp⟩ : ∃ kp : Nat, M 102 34 = (kp : Int) := ⟨(M 102 34).toNat, by omega⟩
  have rr : ∀ i : Nat, 0 ≤ rawF M (i : Nat) (i : Nat) ∧ rawF M (i : Nat) (i : Nat) ≤ 4 := fun i => raw_r hc.1 j4.1 _ _
  have ref : ∀ (M1 : zM) (v : Int), RelA k0 M1 → vCch M1 → (∀ x j, dX x j = false → M1 x j = M x j) → zR v → v = (if 0 ≤ hr ∧ hr ≤ 99 then lvlF M1 hr.toNat else -1) → zP E mX12_level [.inr (.inr 102), .inl hr] M1 (fun r2 M2 => (zR v ∧ zR r2) ∧ v = r2 ∧ P' M2) := by
    intro M1 v hA1 hc1 f1 zv hv
    refine vcX12_level _ ?_
    intro M2 h2'
    have f2 : ∀ x j, dV x j = false → M2 x j = M1 x j := by rw [h2']; exact fr_up rfl
    have fin : ∀ M3, (∀ x j, dV x j = false → M3 x j = M1 x j) → P' M3 := fun M3 f3 => h M3 (V_rel hA1 f3) (V_cch hA1 f3 hc1) (fr_t f1 (fr_sub dV_X f3))
    refine r_isHour h1 ?_
    by_cases g1 : 0 ≤ hr ∧ hr ≤ 99
    · rw [if_pos g1]
      rw [if_pos g1] at hv
      refine ⟨zRd rfl, fun q => absurd q (by decide), fun _ => ?_⟩
      obtain ⟨n, hn⟩ : ∃ n : Nat, hr = (n : Int) := ⟨hr.toNat, by omega⟩
      subst hn
      rw [Int.toNat_natCast] at hv
      refine r_levelAt hA1 hc1.1 f2 (by omega) (fun M3 f3 => ?_)
      rw [← hv]
      exact q_end zv (fin M3 f3)
    · rw [if_neg g1]
      rw [if_neg g1] at hv
      subst hv
      exact ⟨zRd rfl, fun _ => q_end zv (fin M2 f2), fun q => absurd rfl q⟩
  refine vcX11_level _ (fun m l1 l2 l3 M' => ∃ n i : Nat, hr = (n : Int) ∧ l1 = (n : Int) ∧ n < 100 ∧ l3 = ((n - kp + i : Nat) : Int) ∧ n - kp + i ≤ n + 1 ∧ m = 200 - i ∧ RelA k0 M' ∧ vCch M' ∧ (∀ x j, dX x j = false → M' x j = M x j) ∧ (∀ x, 102 ≤ x → M' x = M x) ∧ l2 = mxW (fun i => rawF M (i : Nat) (i : Nat)) (n - kp) i) ?_ ?_
  · refine c_isHour h1 ?_
    by_cases g1 : 0 ≤ hr ∧ hr ≤ 99
    · rw [if_pos g1]
      refine ⟨zRd rfl, fun _ => ?_, fun q => absurd q (by decide)⟩
      obtain ⟨n, hn⟩ : ∃ n : Nat, hr = (n : Int) := ⟨hr.toNat, by omega⟩
      subst hn
      rw [hbk, Int.toNat_natCast, j2, hkp]
      refine ⟨hf, by unfold zR; omega, 200 - 0, n, 0, rfl, rfl, by omega, ?_, by omega, rfl, hA, hc, fun _ _ _ => rfl, fun _ _ => rfl, rfl⟩
      split <;> omega
    · rw [if_neg g1]
      exact ⟨zRd rfl, fun q => absurd rfl q, fun _ => ref M _ hA hc (fun _ _ _ => rfl) (zRd rfl) (by rw [if_neg g1])⟩
  · rintro m l1 l2 l3 M' ⟨n, i, en, rfl, hn, rfl, hi, rfl, hA', hc', fX, hhi, rfl⟩
    have mr := mxW_r rr (n - kp) i
    obtain ⟨ve, be⟩ := hi_eq hhi
    refine ⟨⟨by unfold zR; omega, by unfold zR; omega⟩, fun q => ?_, fun q => ?_⟩
    · refine ref M' _ hA' hc' fX (by unfold zR; omega) ?_
      rw [if_pos (by omega), en, Int.toNat_natCast]
      unfold lvlF
      rw [hhi 102 (by decide), hkp, Int.toNat_natCast, show n + 1 - (n - kp) = i by omega]
      congr 1
      funext j
      rw [rawF_e (ve _) be]
    · refine c_rawOwn hA' hc'.1 hc'.2.1 (show n - kp + i < 100 by omega) ?_
      intro M2 f2 t2 k2 r2
      obtain ⟨b1, b2, b3⟩ := E_cch hA' hc' f2 t2 k2 r2
      have r2' := rr (n - kp + i)
      rw [rawF_e (ve _) be]
      refine ⟨⟨by unfold zR; omega, by unfold zR; omega⟩, 200 - (i + 1), by omega, n, i + 1, en, rfl, hn, by omega, by omega, rfl, b1, b2, fr_t fX b3, fun x hx => by rw [W_hi (fr_sub dE_W f2) x hx]; exact hhi x hx, ?_⟩
      rfl
set_option maxHeartbeats 4000000 in
theorem q_warned {E : zE} {k0 : Nat} {M : zM} {P' : zM → Prop} {p : Int} (hA : RelA k0 M) (hc : vCch M) (h1 : zR p)
    (h : ∀ M' : zM, RelA k0 M' → vCch M' → (∀ x j, dX x j = false → M' x j = M x j) → P' M') : zPP E mX11_warned mX12_warned [.inl p] M P' := by
  have hA0 := hA
  obtain ⟨-, -, -, -, -, -, -, -, -, ⟨p1, p2, p3, p4⟩, -, -, ⟨j0, j1, j2, j3, j4, j5, j6⟩, kp0⟩ := hA
  have tn : (0 ≤ p ∧ p < M 102 69) → (M 142 p.toNat = 0 ∧ M 45 p.toNat = -1) ∨ (M 142 p.toNat = 1 ∧ M 45 p.toNat ≠ -1 ∧ (1 ≤ M 145 p.toNat ∧ M 145 p.toNat ≤ 4) ∧ (0 ≤ M 146 p.toNat ∧ M 146 p.toNat ≤ 5)) := fun hp => by
    rcases p3 p.toNat (by omega) with ⟨a1, a2, a3, a4, a5, a6, a7, a8, a9, a10⟩ | ⟨a1, a2, -⟩
    · exact Or.inr ⟨a1, by omega, a9, a10⟩
    · exact Or.inl ⟨a1, a2⟩
  have ref : ∀ (M1 : zM) (v : Int), RelA k0 M1 → vCch M1 → (∀ x j, dX x j = false → M1 x j = M x j) → (∀ x, 102 ≤ x → M1 x = M x) → zR v → v = (if (0 ≤ p ∧ p < M 102 69) ∧ M 142 p.toNat = 1 then wfF M p.toNat else -1) → zP E mX12_warned [.inr (.inr 102), .inl p] M1 (fun r2 M2 => (zR v ∧ zR r2) ∧ v = r2 ∧ P' M2) := by
    intro M1 v hA1 hc1 f1 hhi zv hv
    refine vcX12_warned _ ?_
    intro M2 h2'
    have f2 : ∀ x j, dV x j = false → M2 x j = M1 x j := by rw [h2']; exact fr_up rfl
    have fin : ∀ M3, (∀ x j, dV x j = false → M3 x j = M1 x j) → P' M3 := fun M3 f3 => h M3 (V_rel hA1 f3) (V_cch hA1 f3 hc1) (fr_t f1 (fr_sub dV_X f3))
    have epl : M2 102 69 = M 102 69 := by rw [f2 102 69 rfl, hhi 102 (by decide)]
    have eit : M2 142 = M 142 := by rw [← hhi 142 (by decide)]; exact funext fun j => f2 _ j rfl
    refine r_isPlace h1 (by rw [epl]; exact p2) ?_
    rw [epl]
    by_cases g1 : 0 ≤ p ∧ p < M 102 69
    · rw [if_pos g1, eit]
      refine ⟨zRd rfl, fun q => absurd q (by decide), fun _ => ⟨by omega, ?_⟩⟩
      rcases tn g1 with ⟨t1, t2⟩ | ⟨t1, t2, t3, t4⟩
      · rw [t1]
        rw [if_neg (fun q => by omega)] at hv
        subst hv
        exact ⟨zRd rfl, fun q => absurd rfl q, fun _ => q_end zv (fin M2 f2)⟩
      · rw [t1]
        rw [if_pos ⟨g1, t1⟩] at hv
        refine ⟨zRd rfl, fun _ => ?_, fun q => absurd q (by decide)⟩
        refine r_allLevels hA1 hc1.1 f2 ?_
        intro M3 f3 l3
        obtain ⟨n, hn⟩ : ∃ n : Nat, p = (n : Int) := ⟨p.toNat, by omega⟩
        subst hn
        rw [Int.toNat_natCast] at t1 t2 t3 t4 hv
        have eth : M3 145 = M 145 := by rw [← hhi 145 (by decide)]; exact funext fun j => f3 _ j rfl
        have elg : M3 146 = M 146 := by rw [← hhi 146 (by decide)]; exact funext fun j => f3 _ j rfl
        obtain ⟨ve, be⟩ := hi_eq hhi
        have j4' : 0 ≤ M1 102 32 := by rw [hhi 102 (by decide)]; exact j4.1
        have lr : ∀ j, j < 100 → 0 ≤ M3 154 j ∧ M3 154 j ≤ 4 := fun j hj => by
          rw [l3 j hj]
          exact mxW_r (fun i => raw_r hc1.1 j4' _ _) _ _
        refine r_warnW (by omega) (fun j hj => by have := lr j hj; unfold zR; omega) (by rw [eth]; unfold zR; omega) ?_
        have e : wat (M3 154) (M3 145 n) (M3 146 n) 0 100 = wfF M n := by
          rw [eth, elg, wat_mx (g := fun i => rawF M1 (i : Nat) (i : Nat)) (kp := (M1 102 34).toNat) t3.1 (fun j hj => l3 j hj) 0 100 (by omega) (fun j hj => by omega)]
          unfold wfF
          congr 1
          funext j
          rw [rawF_e (ve _) be]
        rw [e, ← hv]
        exact q_end zv (fin M3 f3)
    · rw [if_neg g1]
      rw [if_neg (fun q => g1 q.1)] at hv
      subst hv
      exact ⟨zRd rfl, fun _ => q_end zv (fin M2 f2), fun q => absurd rfl q⟩
  refine vcX11_warned _ ?_
  refine c_isTown h1 (by rw [p1]; exact p2) p4 ?_
  rw [p1]
  by_cases g1 : (0 ≤ p ∧ p < M 102 69) ∧ M 45 p.toNat ≠ -1
  · rw [if_pos g1]
    refine ⟨zRd rfl, fun _ => ?_, fun q => absurd q (by decide)⟩
    rcases tn g1.1 with ⟨t1, t2⟩ | ⟨t1, t2, t3, t4⟩
    · exact absurd t2 g1.2
    · refine c_noteWarnings hA0 hc.1 hc.2.1 hc.2.2 ?_
      intro M1 f1 t1' k1 r1 n1 w1
      obtain ⟨b1, b2, b3⟩ := W_cch hA0 hc.1 f1 t1' k1 r1 w1
      have hhi := W_hi f1
      refine ⟨by omega, ?_⟩
      have ev : M1 50 p.toNat = wfF M p.toNat := by
        rw [w1 n1 p.toNat (by rw [hhi 102 (by decide)]; omega) (by rw [hhi 142 (by decide)]; exact t1)]
        exact wfF_e (hi_eq hhi) (hhi _ (by decide)) (hhi _ (by decide)) _
      have wr := wat_r (lv := fun h => rawF M (h : Nat) (h : Nat)) (t := M 145 p.toNat) t4 0 100
      have wr : wfF M p.toNat = -1 ∨ (0 ≤ wfF M p.toNat ∧ wfF M p.toNat ≤ 104) := by
        unfold wfF
        omega
      rw [ev]
      exact ref M1 _ b1 b2 b3 hhi (by unfold zR; omega) (by rw [if_pos ⟨g1.1, t1⟩])
  · rw [if_neg g1]
    refine ⟨zRd rfl, fun q => absurd rfl q, fun _ => ref M _ hA0 hc (fun _ _ _ => rfl) (fun _ _ => rfl) (zRd rfl) ?_⟩
    rw [if_neg (fun q => ?_)]
    rcases tn q.1 with ⟨t1, t2⟩ | ⟨t1, t2, t3, t4⟩
    · omega
    · exact g1 ⟨q.1, t2⟩
