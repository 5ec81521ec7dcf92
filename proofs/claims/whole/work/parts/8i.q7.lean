/-! pairs: ledOut, cut, cost -/
def brF (M : zM) (w : Nat) : Int := sm (M 102 51 * M 102 52).toNat (buF M (scF M w))
theorem r_buriedB {E : zE} {M : zM} {Q : Int → zM → Prop} {sc : Nat → Int} {A : Nat} (hA : M 102 51 * M 102 52 = (A : Int)) (h64 : A ≤ 64) (ht : ∀ j, j < A → M 139 j = sc j ∧ (1 ≤ sc j ∧ sc j ≤ 13)) (h : Q (sm A (buF M sc)) M) : zP E mX12_buried [.inr (.inr 102)] M Q := by
  refine vcX12_buried (fun n l1 l2 M' => M' = M ∧ ∃ i : Nat, l2 = (i : Int) ∧ i ≤ A ∧ n = 100 - i ∧ l1 = sm i (buF M sc)) ⟨100, rfl, 0, rfl, by omega, rfl, rfl⟩ ?_
  rintro n l1 l2 M' ⟨rfl, i, rfl, hi, rfl, rfl⟩
  rw [hA, Int.toNat_natCast]
  refine ⟨⟨by unfold zR; omega, by unfold zR; omega⟩, fun q => ?_, fun q => ⟨by omega, ?_⟩⟩
  · have : i = A := by omega
    subst this
    exact h
  · obtain ⟨e, er⟩ := ht i (by omega)
    rw [e]
    have un : sm (i + 1) (buF M' sc) = sm i (buF M' sc) + (if sc i ≤ 12 then M' 129 i else 0) := rfl
    refine ⟨by unfold zR; omega, fun q2 => ⟨100 - (i + 1), by omega, rfl, i + 1, by omega, by omega, rfl, ?_⟩, fun q2 => ⟨by omega, 100 - (i + 1), by omega, rfl, i + 1, by omega, by omega, rfl, ?_⟩⟩
    · rw [un, if_neg (by omega)]
    · rw [un, if_pos q2]
theorem r_peopleB {E : zE} {M : zM} {Q : Int → zM → Prop} {P : Nat} (hP : M 102 69 = (P : Int)) (P8 : P ≤ 8) (ht : ∀ p, p < P → M 142 p = 0 ∨ M 142 p = 1) (h : Q (ap M P) M) : zP E mX12_allPeople [.inr (.inr 102)] M Q := by
  refine vcX12_allPeople (fun n l1 l2 M' => M' = M ∧ ∃ i : Nat, l2 = (i : Int) ∧ i ≤ P ∧ n = 100 - i ∧ l1 = ap M i) ⟨100, rfl, 0, rfl, by omega, rfl, rfl⟩ ?_
  rintro n l1 l2 M' ⟨rfl, i, rfl, hi, rfl, rfl⟩
  rw [hP, Int.toNat_natCast]
  refine ⟨⟨by unfold zR; omega, by unfold zR; omega⟩, fun q => ?_, fun q => ⟨by omega, ?_⟩⟩
  · have : i = P := by omega
    subst this
    exact h
  · have t := ht i (by omega)
    have un : ap M' (i + 1) = ap M' i + (if M' 142 i = 0 then 0 else M' 144 i) := rfl
    refine ⟨by rcases t with q2 | q2 <;> rw [q2] <;> exact zRd rfl, fun q2 => ⟨100 - (i + 1), by omega, rfl, i + 1, by omega, by omega, rfl, ?_⟩, fun q2 => ⟨by omega, 100 - (i + 1), by omega, rfl, i + 1, by omega, by omega, rfl, ?_⟩⟩
    · rw [un, if_pos q2]
    · rw [un, if_neg q2]
theorem c_people {E : zE} {M : zM} {Q : Int → zM → Prop} (hp : rPlc M) (h : Q (ap M (M 102 69).toNat) M) : zP E mX3_allPeople [.inr (.inr 44)] M Q := by
  obtain ⟨p1, p2, p3, -⟩ := hp
  obtain ⟨P, hP⟩ : ∃ P : Nat, M 102 69 = (P : Int) := ⟨(M 102 69).toNat, by omega⟩
  rw [hP, Int.toNat_natCast] at h
  refine vcX3_allPeople (fun n l1 l2 M' => M' = M ∧ ∃ i : Nat, l2 = (i : Int) ∧ i ≤ P ∧ n = 100 - i ∧ l1 = ap M i) ⟨100, rfl, 0, rfl, by omega, rfl, rfl⟩ ?_
  rintro n l1 l2 M' ⟨rfl, i, rfl, hi, rfl, rfl⟩
  rw [p1, hP, Int.toNat_natCast]
  refine ⟨⟨by unfold zR; omega, by unfold zR; omega⟩, fun q => ?_, fun q => ⟨by omega, 100 - (i + 1), by omega, rfl, i + 1, by omega, by omega, rfl, ?_⟩⟩
  · have : i = P := by omega
    subst this
    exact h
  · have un : ap M' (i + 1) = ap M' i + (if M' 142 i = 0 then 0 else M' 144 i) := rfl
    rw [un]
    rcases p3 i (by omega) with ⟨a1, a2, a3, -⟩ | ⟨a1, a2, a3, -⟩
    · rw [if_neg (by omega), a3]
    · rw [if_pos a1, a3]
/-- all that is kept -/
def cch (M : zM) : Prop := vCch M ∧ rStp M ∧ rLed M
theorem dRf_lo {x j : Nat} (hx : x < 102) : dRf x j = false := by
  cases hr : dRf x j with
  | false => rfl
  | true =>
    exfalso
    simp only [dRf, dLd, dV, Bool.or_eq_true, Bool.and_eq_true, beq_iff_eq, List.contains_cons, List.contains_nil, Bool.or_false] at hr
    omega
theorem fid_lt {w : Nat} (hw : w < 3) : fid w + 8 < 102 := by
  rcases fid3 hw with ⟨-, e⟩ | ⟨-, e⟩ | ⟨-, e⟩ <;> rw [e] <;> decide
theorem Rf_all {k : Nat} {M M' : zM} (hA : RelA k M) (hc : cch M) (f : ∀ x j, dRf x j = false → M' x j = M x j) : RelA k M' ∧ cch M' := by
  have fK := fr_sub dRf_K f
  have b := bs_fr f
  have lo : ∀ x, x < 102 → M' x = M x := fun x hx => funext fun j => f x j (dRf_lo hx)
  refine ⟨K_rel hA fK, K_cch hA fK hc.1, rStp_e hA b (fun w hw => ?_) hc.2.1, rLed_e hA b (fun w hw => ?_) hc.2.2⟩
  · have l := fid_lt hw
    rw [lo (fid w) (by omega)]
    exact ⟨rfl, rfl, fun i i1 i2 => lo _ (by omega)⟩
  · have l := fid_lt hw
    rw [lo (fid w) (by omega)]
    exact ⟨rfl, rfl, lo _ (by omega)⟩
theorem W_all {k : Nat} {M M' : zM} (hA : RelA k M) (hc : cch M) (f : ∀ x j, dW x j = false → M' x j = M x j) (ht : tlOk M') (hk : rKpt M') (hr : rRaw M') (hw : rWrn M') : RelA k M' ∧ cch M' := by
  obtain ⟨a1, a2, -⟩ := W_cch hA hc.1.1 f ht hk hr hw
  have hi := W_hi f
  have b := bs_hi hi
  refine ⟨a1, a2, rStp_e hA b (fun w hw => ?_) hc.2.1, rLed_e hA b (fun w hw => ?_) hc.2.2⟩
  · rcases fid3 hw with ⟨-, e⟩ | ⟨-, e⟩ | ⟨-, e⟩ <;> rw [e] <;> refine ⟨f _ _ rfl, f _ _ rfl, fun i i1 i2 => ?_⟩ <;> (have : i = 1 ∨ i = 2 ∨ i = 3 := by omega) <;> rcases this with q | q | q <;> rw [q] <;> exact funext fun j => f _ j rfl
  · rcases fid3 hw with ⟨-, e⟩ | ⟨-, e⟩ | ⟨-, e⟩ <;> rw [e] <;> exact ⟨f _ _ rfl, f _ _ rfl, funext fun j => f _ j rfl⟩
/-- what these calls may change, of both -/
def dY (x j : Nat) : Bool := dW x j || dK x j
theorem dW_Y (x j : Nat) (h : dW x j = true) : dY x j = true := by unfold dY; rw [h]; rfl
theorem dK_Y (x j : Nat) (h : dK x j = true) : dY x j = true := by unfold dY; rw [h, Bool.or_true]
theorem dRf_Y (x j : Nat) (h : dRf x j = true) : dY x j = true := dK_Y x j (dRf_K x j h)
theorem br_r {k w : Nat} {M : zM} (hA : RelA k M) : 0 ≤ brF M w ∧ brF M w ≤ 6400 := by
  have hl := hA.2.2.2.2.2.2.1
  obtain ⟨w1, -⟩ := wt_r hl
  obtain ⟨-, -, -, -, -, -, -, -, -, l10⟩ := hl
  have key : ∀ n : Nat, 0 ≤ sm n (buF M (scF M w)) ∧ sm n (buF M (scF M w)) ≤ 100 * n := by
    intro n
    induction n with
    | zero => exact ⟨Int.le_refl _, Int.le_refl _⟩
    | succ n ih =>
      have un : sm (n + 1) (buF M (scF M w)) = sm n (buF M (scF M w)) + (if scF M w n ≤ 12 then M 129 n else 0) := rfl
      rw [un]
      have := l10 n
      split <;> omega
  have := key (M 102 51 * M 102 52).toNat
  unfold brF
  omega
theorem ap_r {k : Nat} {M : zM} (hA : RelA k M) : 0 ≤ ap M (M 102 69).toNat ∧ ap M (M 102 69).toNat ≤ 8000 := by
  obtain ⟨-, -, -, -, -, -, -, -, -, ⟨p1, p2, p3, -⟩, -⟩ := hA
  have key : ∀ p : Nat, (p : Int) ≤ M 102 69 → 0 ≤ ap M p ∧ ap M p ≤ 1000 * p := by
    intro p hp
    induction p with
    | zero => exact ⟨Int.le_refl _, Int.le_refl _⟩
    | succ p ih =>
      have ih := ih (by omega)
      have un : ap M (p + 1) = ap M p + (if M 142 p = 0 then 0 else M 144 p) := rfl
      rw [un]
      rcases p3 p (by omega) with ⟨a1, a2, a3, a4, a5, a6, a7, a8, -⟩ | ⟨a1, -⟩
      · rw [if_neg (by omega)]; omega
      · rw [if_pos a1]; omega
  have := key (M 102 69).toNat (by omega)
  omega
theorem tn01 {k : Nat} {M : zM} (hA : RelA k M) : ∀ p : Nat, (p : Int) < M 102 69 → M 142 p = 0 ∨ M 142 p = 1 := fun p hp => by
  obtain ⟨-, -, -, -, -, -, -, -, -, ⟨p1, p2, p3, -⟩, -⟩ := hA
  rcases p3 p hp with ⟨a1, -⟩ | ⟨a1, -⟩
  · exact Or.inr a1
  · exact Or.inl a1
set_option maxHeartbeats 4000000 in
/-- the reference leads, from any memory that differs by answers alone and has the levels -/
theorem r_leadL {E : zE} {M M7 : zM} {Q : Int → zM → Prop} {k w : Nat} (hA : RelA k M) (hc : vCch M) (f7 : ∀ x j, dRf x j = false → M7 x j = M x j) (l7 : ∀ n, n < 100 → M7 154 n = lvlF M n) (hw : (w : Int) < M 102 58)
    (h : ∀ M9 : zM, (∀ x j, dLd x j = false → M9 x j = M7 x j) → M9 102 92 = bgn M w → M9 102 93 = fns M w → M9 102 95 = svF M w → (∀ j : Nat, (j : Int) < M 102 51 * M 102 52 → M9 139 j = scF M w j) → (∀ v, v < 200 → zR (M9 160 v) ∧ (M9 160 v ≠ -1 ↔ inS (ntF M w) v)) → Q 0 M9) : zP E mX12_leads [.inr (.inr 102), .inl (w : Int)] M7 Q := by
  have hA7 := K_rel hA (fr_sub dRf_K f7)
  have b7 := bs_fr f7
  have j4 := hA.2.2.2.2.2.2.2.2.2.2.2.2.1.2.2.2.2.1
  have hw7 : (w : Int) < M7 102 58 := by rw [f7 102 58 rfl]; exact hw
  obtain ⟨n1, n2⟩ := bs_net hA b7 w
  have nt7 := nt_rel hA7 hw7
  have lg : ∀ p : Nat, (p : Int) < M7 102 69 → M7 142 p = 1 → wfF M7 p = wat (M7 154) (M7 145 p) (M7 146 p) 0 100 := fun p hp q => by
    have t3 : 1 ≤ M7 145 p := by
      obtain ⟨-, -, -, -, -, -, -, -, -, ⟨p1, p2, p3, -⟩, -⟩ := hA7
      rcases p3 p hp with ⟨a1, a2, a3, a4, a5, a6, a7, a8, a9, a10⟩ | ⟨a1, -⟩
      · exact a9.1
      · omega
    rw [wat_mx (g := fun i => rawF M (i : Nat) (i : Nat)) (kp := (M 102 34).toNat) t3 (fun j hj => l7 j hj) 0 100 (by omega) (fun j hj => by omega)]
    unfold wfF
    congr 1
    funext j
    rw [rawF_e ((bs_eq b7).1 _) (bs_eq b7).2]
  refine r_leads (wf := wfF M7) hA7 hw7 (fun j hj => by
    have := mxW_r (g := fun i => rawF M (i : Nat) (i : Nat)) (fun i => raw_r hc.1 j4.1 _ _) (j - (M 102 34).toNat) (j + 1 - (j - (M 102 34).toNat))
    rw [l7 j hj]
    unfold lvlF zR
    omega) lg ?_
  intro M9 r f9 e1 e2 e3 e4 e5 e6 e7
  have mx := mxf_cn (netL_ok (wf := wfF M7) nt7).1 e6
  have er : mxr (ntF M7 w) = r := mxr_e mx
  have eb : bgn M7 w = bgn M w := by unfold bgn; rw [f7 132 w rfl]
  have ef : fns M7 w = fns M w := by unfold fns; rw [f7 132 w rfl]
  refine h M9 f9 (by rw [e1, eb]) (by rw [e2, ef]) ?_ (fun j hj => ?_) (fun v hv => ?_)
  · rw [e3, ← n2]
    unfold svF
    rw [er]
  · rw [e5 j (by rw [f7 102 51 rfl, f7 102 52 rfl]; exact hj), bs_sc b7]
  · refine ⟨e7 v (by omega), ?_⟩
    have e := inS_e mx (show v < 202 by omega)
    rw [← n1]
    have rv : rn v = v := by
      unfold rn
      rw [if_neg (by omega), if_neg (by omega)]
    rw [rv] at e
    constructor
    · intro q; exact e.mpr (decide_eq_true q)
    · intro q; exact of_decide_eq_true (e.mp q)
theorem V_Rf {M M' : zM} (f : ∀ x j, dV x j = false → M' x j = M x j) : ∀ x j, dRf x j = false → M' x j = M x j := fr_sub dV_Rf f
set_option maxHeartbeats 4000000 in
theorem q_ledOut {E : zE} {k0 : Nat} {M : zM} {P' : zM → Prop} {a t : Int} (hA : RelA k0 M) (hc : cch M) (h1 : zR a) (h2 : zR t)
    (h : ∀ M' : zM, RelA k0 M' → cch M' → (∀ x j, dY x j = false → M' x j = M x j) → P' M') : zPP E mX11_ledOut mX12_ledOut [.inl a, .inl t] M P' := by
  obtain ⟨-, -, -, -, -, -, -, -, ⟨wc, wr, -⟩, -⟩ := id hA
  have ref : ∀ (M1 : zM) (v : Int), RelA k0 M1 → cch M1 → (∀ x j, dY x j = false → M1 x j = M x j) → bs M M1 → zR v → v = (if (0 ≤ a ∧ a < M 102 58) ∧ (0 ≤ t ∧ t ≤ 2) then (if t = 0 then svF M a.toNat else if t = 1 then ap M (M 102 69).toNat - svF M a.toNat else brF M a.toNat) else -1) → zP E mX12_ledOut [.inr (.inr 102), .inl a, .inl t] M1 (fun r2 M2 => (zR v ∧ zR r2) ∧ v = r2 ∧ P' M2) := by
    intro M1 v hA1 hc1 f1 b1 zv hv
    refine vcX12_ledOut _ _ ?_
    intro M2 h2'
    have f2 : ∀ x j, dV x j = false → M2 x j = M1 x j := by rw [h2']; exact fr_up rfl
    have fin : ∀ M3, (∀ x j, dRf x j = false → M3 x j = M1 x j) → P' M3 := fun M3 f3 => by
      obtain ⟨c1, c2⟩ := Rf_all hA1 hc1 f3
      exact h M3 c1 c2 (fr_t f1 (fr_sub dRf_Y f3))
    have ew : M2 102 58 = M 102 58 := by rw [f2 102 58 rfl]; exact b1 _ _ (by decide) rfl
    refine r_isWorld h1 (by rw [ew]; exact wr) ?_
    rw [ew]
    by_cases g1 : 0 ≤ a ∧ a < M 102 58
    · rw [if_pos g1]
      refine ⟨zRd rfl, fun q => absurd q (by decide), fun _ => ?_⟩
      refine r_isIn h2 (zRd rfl) (zRd rfl) ?_
      by_cases g2 : 0 ≤ t ∧ t ≤ 2
      · rw [if_pos g2]
        rw [if_pos ⟨g1, g2⟩] at hv
        refine ⟨zRd rfl, fun _ => ?_, fun q => absurd q (by decide)⟩
        refine r_allLevels hA1 hc1.1.1 f2 ?_
        intro M3 f3 l3
        obtain ⟨w, hw⟩ : ∃ w : Nat, a = (w : Int) := ⟨a.toNat, by omega⟩
        subst hw
        rw [Int.toNat_natCast] at hv
        have hw1 : (w : Int) < M1 102 58 := by rw [b1 _ _ (by decide) rfl]; exact g1.2
        refine r_leadL hA1 hc1.1 (V_Rf f3) l3 hw1 ?_
        intro M9 f9 e1 e2 e3 e4 e5
        have fr9 : ∀ x j, dRf x j = false → M9 x j = M1 x j := fr_t (V_Rf f3) (fr_sub dLd_Rf f9)
        have b9 := bs_t b1 (bs_fr fr9)
        obtain ⟨m1, m2⟩ := bs_net hA b1 w
        have hA9 := (Rf_all hA1 hc1 fr9).1
        obtain ⟨P, hP⟩ : ∃ P : Nat, M 102 69 = (P : Int) := ⟨(M 102 69).toNat, by
          obtain ⟨-, -, -, -, -, -, -, -, -, ⟨p1, p2, -⟩, -⟩ := hA
          omega⟩
        have hP9 : M9 102 69 = (P : Int) := by rw [b9 _ _ (by decide) rfl]; exact hP
        refine ⟨h2, fun q => ⟨h2, fun q2 => ?_, fun q2 => ?_⟩, fun q => ?_⟩
        · rw [if_neg q, if_neg q2] at hv
          obtain ⟨A, hA'⟩ : ∃ A : Nat, M 102 51 * M 102 52 = (A : Int) := ⟨(M 102 51 * M 102 52).toNat, by have := (wt_r hA.2.2.2.2.2.2.1).1; omega⟩
          have hA64 : A ≤ 64 := by have := (wt_r hA.2.2.2.2.2.2.1).1; omega
          have ewt : M9 102 51 * M9 102 52 = (A : Int) := by rw [b9 102 51 (by decide) rfl, b9 102 52 (by decide) rfl]; exact hA'
          have ewt1 : M1 102 51 * M1 102 52 = (A : Int) := by rw [b1 102 51 (by decide) rfl, b1 102 52 (by decide) rfl]; exact hA'
          refine r_buriedB (sc := scF M1 w) ewt hA64 (fun j hj => ⟨e4 j (by rw [ewt1]; omega), (lvR_ok (s := 12) hA1 hw1 (by omega) j (by rw [ewt1]; omega)).2.2⟩) ?_
          have eB : sm A (buF M9 (scF M1 w)) = brF M w := by
            unfold brF
            rw [hA', Int.toNat_natCast, bs_sc b1]
            refine sm_congr (fun j hj => ?_)
            unfold buF
            rw [b9 129 j (by decide) rfl]
          rw [eB, ← hv]
          exact q_end zv (fin M9 fr9)
        · rw [if_neg q, if_pos q2] at hv
          refine r_peopleB hP9 (by
            obtain ⟨-, -, -, -, -, -, -, -, -, ⟨p1, p2, -⟩, -⟩ := hA
            omega) (fun p hp => tn01 hA9 p (by omega)) ?_
          rw [e3, m2, bs_ap b9]
          rw [hP, Int.toNat_natCast] at hv
          rw [← hv]
          exact q_end zv (fin M9 fr9)
        · rw [if_pos q] at hv
          rw [e3, m2, ← hv]
          exact q_end zv (fin M9 fr9)
      · rw [if_neg g2]
        rw [if_neg (fun q => g2 q.2)] at hv
        subst hv
        exact ⟨zRd rfl, fun q => absurd rfl q, fun _ => q_end zv (fin M2 (V_Rf f2))⟩
    · rw [if_neg g1]
      rw [if_neg (fun q => g1 q.1)] at hv
      subst hv
      exact ⟨zRd rfl, fun _ => q_end zv (fin M2 (V_Rf f2)), fun q => absurd rfl q⟩
  refine vcX11_ledOut _ _ ?_
  refine c_isWorld h1 (by rw [wc]; exact wr) ?_
  rw [wc]
  by_cases g1 : 0 ≤ a ∧ a < M 102 58
  · rw [if_pos g1]
    refine ⟨zRd rfl, fun q => absurd q (by decide), fun _ => ?_⟩
    refine c_within h2 (zRd rfl) (zRd rfl) ?_
    by_cases g2 : 0 ≤ t ∧ t ≤ 2
    · rw [if_pos g2]
      obtain ⟨w, hw⟩ : ∃ w : Nat, a = (w : Int) := ⟨a.toNat, by omega⟩
      subst hw
      rw [Int.toNat_natCast] at ref
      have w3 : w < 3 := by omega
      have hF3 : zIs_0 (fid w : Int) := by
        rcases fid3 w3 with ⟨-, e⟩ | ⟨-, e⟩ | ⟨-, e⟩ <;> rw [e] <;> unfold zIs_0 <;> simp
      have br := br_r (w := w) hA
      have apr := ap_r hA
      refine ⟨zRd rfl, fun _ => ⟨h2, fun q => ?_, fun q => ?_⟩, fun q => absurd q (by decide)⟩
      · refine c_noteWarnings hA hc.1.1 hc.1.2.1 hc.1.2.2 ?_
        intro M1 f1 t1 k1 r1 n1 w1
        obtain ⟨hA1, hc1⟩ := W_all hA hc f1 t1 k1 r1 w1
        have b1 := bs_hi (W_hi f1)
        refine c_led hA1 hc1.2.1 hc1.2.2 n1 w1 (by rw [b1 _ _ (by decide) rfl]; exact g1.2) ?_
        intro M2 f2 s2 l2 ld2 ok2 _
        have hA2 := K_rel hA1 f2
        have hc2 : cch M2 := ⟨K_cch hA1 f2 hc1.1, s2, l2⟩
        have b2 := bs_t b1 (K_bs f2)
        obtain ⟨m1, m2⟩ := bs_net hA b2 w
        have fY := fr_t (fr_sub dW_Y f1) (fr_sub dK_Y f2)
        have eP : M2 102 69 = M 102 69 := b2 _ _ (by decide) rfl
        obtain ⟨o1, o2, -⟩ := ok2
        rw [m2, eP, bs_ap b2] at o2
        rw [m2] at o1
        rw [Int.toNat_natCast, o1]
        refine ⟨hF3, h2, fun q2 => ?_, fun q2 => ?_⟩
        · refine c_people hA2.2.2.2.2.2.2.2.2.2.1 ?_
          rw [eP, bs_ap b2]
          refine ref M2 _ hA2 hc2 fY b2 (by unfold zR; omega) ?_
          rw [if_pos ⟨g1, g2⟩, if_neg q2, if_pos (by omega)]
        · refine ref M2 _ hA2 hc2 fY b2 (by unfold zR; omega) ?_
          rw [if_pos ⟨g1, g2⟩, if_pos q2]
      · refine c_stepped hA hc.2.1 g1.2 ?_
        intro M2 f2 s2 st2 ok2
        have fK := fr_sub dStp_K f2
        have b2 := K_bs fK
        have hA2 := K_rel hA fK
        have same : ∀ w' : Nat, w' < 3 → M2 (fid w') 8 = M (fid w') 8 ∧ M2 (fid w') 10 = M (fid w') 10 ∧ M2 (fid w' + 7) = M (fid w' + 7) := fun w' hw' => by
          rcases fid3 hw' with ⟨-, e⟩ | ⟨-, e⟩ | ⟨-, e⟩ <;> rw [e] <;> exact ⟨f2 _ _ rfl, f2 _ _ rfl, funext fun j => f2 _ j rfl⟩
        have hc2 : cch M2 := ⟨K_cch hA fK hc.1, s2, rLed_e hA b2 same hc.2.2⟩
        rw [Int.toNat_natCast]
        refine ⟨hF3, ?_⟩
        have eB : M2 (fid w) 3 = brF M w := by
          rw [ok2.2.2]
          unfold brF
          rw [b2 102 51 (by decide) rfl, b2 102 52 (by decide) rfl]
          refine sm_congr (fun j hj => ?_)
          show (if (lvR M2 w 12).2.2 j ≤ 12 then M2 129 j else 0) = (if (lvR M w 12).2.2 j ≤ 12 then M 129 j else 0)
          rw [bs_lv b2, b2 129 j (by decide) rfl]
        rw [eB]
        refine ref M2 _ hA2 hc2 (fr_sub dK_Y fK) b2 (by unfold zR; omega) ?_
        rw [if_pos ⟨g1, g2⟩, if_neg (by omega), if_neg (by omega)]
    · rw [if_neg g2]
      exact ⟨zRd rfl, fun q => absurd rfl q, fun _ => ref M _ hA hc (fun _ _ _ => rfl) (bs_r M) (zRd rfl) (by rw [if_neg (fun q => g2 q.2)])⟩
  · rw [if_neg g1]
    exact ⟨zRd rfl, fun _ => ref M _ hA hc (fun _ _ _ => rfl) (bs_r M) (zRd rfl) (by rw [if_neg (fun q => g1 q.1)]), fun q => absurd rfl q⟩
