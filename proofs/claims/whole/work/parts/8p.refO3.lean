/-! costs of the reference by its own good state -/
theorem sv_O {M : zM} {w : Nat} (hO : refOk M) (hw : (w : Int) < M 102 58) : 0 ≤ svF M w ∧ svF M w ≤ ap M (M 102 69).toNat := by
  have nt := nt_O hO hw
  obtain ⟨cs1, cs2⟩ := cut_src (wf := wfF M) nt
  obtain ⟨no, nl⟩ := netL_ok (wf := wfF M) nt
  rw [← cut_cn no] at cs1
  have nodes : ∀ a, a < (netL M (scF M w) (wfF M) w).length → 0 ≤ aCp (netL M (scF M w) (wfF M) w) a := fun a ha => by
    obtain ⟨c1, c2, c3⟩ := no _ (a_get (netL M (scF M w) (wfF M) w) ha).2
    simp only at c3
    omega
  have cnn : ∀ S, 0 ≤ cutF (netL M (scF M w) (wfF M) w).length (cf (netL M (scF M w) (wfF M) w)) (ct (netL M (scF M w) (wfF M) w)) (aCp (netL M (scF M w) (wfF M) w)) S := fun S => by
    have := sm_le (n := (netL M (scF M w) (wfF M) w).length) (f := fun _ => 0) (g := fun a => if S (cf (netL M (scF M w) (wfF M) w) a) = true ∧ S (ct (netL M (scF M w) (wfF M) w) a) = false then aCp (netL M (scF M w) (wfF M) w) a else 0) (fun i hi => by
      have := nodes i hi
      show (0 : Int) ≤ (if S (cf (netL M (scF M w) (wfF M) w) i) = true ∧ S (ct (netL M (scF M w) (wfF M) w) i) = false then aCp (netL M (scF M w) (wfF M) w) i else 0)
      split <;> omega)
    rw [sm_zero] at this
    exact this
  have c0 := cnn (fun v => v == 200)
  unfold svF
  by_cases hx : ∃ r S, mxf 202 200 201 (ntF M w).length (cf (ntF M w)) (ct (ntF M w)) (aCp (ntF M w)) r S
  · obtain ⟨r, S, hm⟩ := hx
    rw [mxr_e hm]
    obtain ⟨x, hF, s1, s2, hS, -⟩ := hm
    have b1 := (flow_le hF (by decide) (S := fun v => v == 200) rfl rfl).1
    have b2 := (flow_le hF (by decide) s1 s2).2.mpr hS
    have b3 := cnn S
    unfold ntF at b1 b2
    omega
  · have e : mxr (ntF M w) = 0 := by
      unfold mxr
      rw [dif_neg hx]
    rw [e]
    omega
theorem bs_netO {M M' : zM} (hO : refOk M) (h : bs M M') (w : Nat) : ntF M' w = ntF M w ∧ svF M' w = svF M w := by
  have P0 : 0 ≤ M 102 69 := by
    have := hO.2.2.2.2.2.1.1
    omega
  obtain ⟨n1, n2, -⟩ := net_c (sc := scF M w) (sc' := scF M w) (wf := wfF M) (wf' := wfF M) (w := w) (bs_nt h) (fun r hr => ⟨(hO.2.2.2.2.2.2.2 r hr).1, (hO.2.2.2.2.2.2.2 r hr).2.1⟩) (fun _ _ _ => rfl) (fun _ _ _ => rfl) (fun _ _ _ => rfl)
  have e1 : ntF M' w = ntF M w := by
    unfold ntF
    rw [bs_sc h, bs_wf h]
    exact n1
  refine ⟨e1, ?_⟩
  unfold svF
  rw [e1, bs_sc h, bs_wf h, h 102 69 (by decide) rfl, n2 _ (by omega)]
theorem bs_costO {M M' : zM} (hO : refOk M) (b : bs M M') (w : Nat) : clF M' w = clF M w ∧ cbF M' w = cbF M w := by
  induction w with
  | zero => exact ⟨rfl, rfl⟩
  | succ w ih =>
    unfold clF cbF
    rw [ih.1, ih.2, b 136 w (by decide) rfl, b 102 69 (by decide) rfl, bs_ap b, (bs_netO hO b w).2, bs_br b]
    exact ⟨rfl, rfl⟩
theorem ap_O {M : zM} (hO : refOk M) : 0 ≤ ap M (M 102 69).toNat ∧ ap M (M 102 69).toNat ≤ 8000 := by
  obtain ⟨-, -, -, -, -, ⟨p2, p3⟩, -⟩ := hO
  have key : ∀ p : Nat, (p : Int) ≤ M 102 69 → 0 ≤ ap M p ∧ ap M p ≤ 1000 * p := by
    intro p hp
    induction p with
    | zero => exact ⟨Int.le_refl _, Int.le_refl _⟩
    | succ p ih =>
      have ih := ih (by omega)
      have un : ap M (p + 1) = ap M p + (if M 142 p = 0 then 0 else M 144 p) := rfl
      rw [un]
      rcases p3 p (by omega) with ⟨a1, a7, a8, -⟩ | ⟨a1, -⟩
      · rw [if_neg (by omega)]; omega
      · rw [if_pos a1]; omega
  have := key (M 102 69).toNat (by omega)
  omega
theorem br_O {M : zM} {w : Nat} (hO : refOk M) : 0 ≤ brF M w ∧ brF M w ≤ 6400 := by
  obtain ⟨w1, -⟩ := wt_O hO
  obtain ⟨-, -, -, l10, -⟩ := hO
  have key : ∀ n : Nat, 0 ≤ sm n (buF M (scF M w)) ∧ sm n (buF M (scF M w)) ≤ 100 * n := by
    intro n
    induction n with
    | zero => exact ⟨Int.le_refl _, Int.le_refl _⟩
    | succ n ih =>
      have un : sm (n + 1) (buF M (scF M w)) = sm n (buF M (scF M w)) + (if scF M w n ≤ 12 then M 129 n else 0) := rfl
      rw [un]
      have := l10 n
      split <;> omega
  have := key (M 102 51 * M 102 52).toNat
  unfold brF
  omega
theorem cost_O {M : zM} (hO : refOk M) (w : Nat) (hw : (w : Int) ≤ M 102 58) : (0 ≤ clF M w ∧ clF M w ≤ 800000 * w) ∧ (0 ≤ cbF M w ∧ cbF M w ≤ 800000 * w) := by
  induction w with
  | zero => exact ⟨⟨Int.le_refl _, Int.le_refl _⟩, Int.le_refl _, Int.le_refl _⟩
  | succ w ih =>
    have ih := ih (by omega)
    have ar := ap_O hO
    have br := br_O (w := w) hO
    have v := sv_O hO (show (w : Int) < M 102 58 by omega)
    obtain ⟨-, -, -, -, ⟨wr, wb⟩, -⟩ := hO
    have wt := (wb w (by omega)).2.2.2.2
    have m1 := mul_r (a := M 136 w) (b := ap M (M 102 69).toNat - svF M w) (n := 99) (m := 8000) (by omega) (by omega) (by omega)
    have m2 := mul_r (a := M 136 w) (b := brF M w) (n := 99) (m := 6400) (by omega) (by omega) (by omega)
    have u1 : clF M (w + 1) = clF M w + M 136 w * (ap M (M 102 69).toNat - svF M w) := rfl
    have u2 : cbF M (w + 1) = cbF M w + M 136 w * brF M w := rfl
    rw [u1, u2]
    omega
/-- costs only grow with the worlds -/
theorem cost_up {M : zM} (hO : refOk M) (w n : Nat) (hw : ((w + n : Nat) : Int) ≤ M 102 58) : clF M w ≤ clF M (w + n) := by
  induction n with
  | zero => exact Int.le_refl _
  | succ n ih =>
    have ih := ih (by omega)
    have v := sv_O hO (show ((w + n : Nat) : Int) < M 102 58 by omega)
    obtain ⟨-, -, -, -, ⟨wr, wb⟩, -⟩ := hO
    have wt := (wb (w + n) (by omega)).2.2.2.2
    have m1 : 0 ≤ M 136 (w + n) * (ap M (M 102 69).toNat - svF M (w + n)) := Int.mul_nonneg (by omega) (by omega)
    have u1 : clF M (w + (n + 1)) = clF M (w + n) + M 136 (w + n) * (ap M (M 102 69).toNat - svF M (w + n)) := rfl
    omega
set_option maxHeartbeats 8000000 in
theorem r_leadLO {E : zE} {M M7 : zM} {Q : Int → zM → Prop} {w : Nat} (hO : refOk M) (lr : ∀ n, n < 100 → 0 ≤ lvlF M n ∧ lvlF M n ≤ 4) (b7 : bs M M7) (l7 : ∀ n, n < 100 → M7 154 n = lvlF M n) (hw : (w : Int) < M 102 58)
    (h : ∀ M9 : zM, (∀ x j, dLd x j = false → M9 x j = M7 x j) → M9 102 92 = bgn M w → M9 102 93 = fns M w → M9 102 95 = svF M w → (∀ j : Nat, (j : Int) < M 102 51 * M 102 52 → M9 139 j = scF M w j) → (∀ v, v < 200 → zR (M9 160 v) ∧ (M9 160 v ≠ -1 ↔ inS (ntF M w) v)) → Q 0 M9) : zP E mX12_leads [.inr (.inr 102), .inl (w : Int)] M7 Q := by
  have hO7 := refOk_e b7 hO
  have hw7 : (w : Int) < M7 102 58 := by rw [b7 102 58 (by decide) rfl]; exact hw
  obtain ⟨n1, n2⟩ := bs_netO hO b7 w
  have nt7 := nt_O hO7 hw7
  have lg : ∀ p : Nat, (p : Int) < M7 102 69 → M7 142 p = 1 → wfF M7 p = wat (M7 154) (M7 145 p) (M7 146 p) 0 100 := fun p hp q => by
    have t3 : 1 ≤ M7 145 p := by
      obtain ⟨-, -, -, -, -, ⟨p2, p3⟩, -⟩ := hO7
      rcases p3 p hp with ⟨a1, a7, a8, a9, a10⟩ | ⟨a1, -⟩
      · exact a9.1
      · omega
    rw [wat_mx (g := fun i => rawF M (i : Nat) (i : Nat)) (kp := (M 102 34).toNat) t3 (fun j hj => l7 j hj) 0 100 (by omega) (fun j hj => by omega)]
    unfold wfF
    congr 1
    funext j
    rw [rawF_e ((bs_eq b7).1 _) (bs_eq b7).2]
  refine r_leadsO (wf := wfF M7) hO7 hw7 (fun j hj => by
    have := lr j hj
    rw [l7 j hj]
    unfold zR
    omega) lg ?_
  intro M9 r f9 e1 e2 e3 e4 e5 e6 e7
  have mx := mxf_cn (netL_ok (wf := wfF M7) nt7).1 e6
  have er : mxr (ntF M7 w) = r := mxr_e mx
  have es : M7 132 w = M 132 w := b7 132 w (by decide) rfl
  have eb : bgn M7 w = bgn M w := by unfold bgn; rw [es]
  have ef : fns M7 w = fns M w := by unfold fns; rw [es]
  refine h M9 f9 (by rw [e1, eb]) (by rw [e2, ef]) ?_ (fun j hj => ?_) (fun v hv => ?_)
  · rw [e3, ← n2]
    unfold svF
    rw [er]
  · rw [e5 j (by rw [b7 102 51 (by decide) rfl, b7 102 52 (by decide) rfl]; exact hj), bs_sc b7]
  · refine ⟨e7 v (by omega), ?_⟩
    have e := inS_e mx (show v < 202 by omega)
    rw [← n1]
    have rv : rn v = v := by
      unfold rn
      rw [if_neg (by omega), if_neg (by omega)]
    rw [rv] at e
    constructor
    · intro q; exact e.mpr (decide_eq_true q)
    · intro q; exact of_decide_eq_true (e.mp q)
set_option maxHeartbeats 8000000 in
theorem r_costsO {E : zE} {M M7 : zM} {Q : Int → zM → Prop} (hO : refOk M) (lr : ∀ n, n < 100 → 0 ≤ lvlF M n ∧ lvlF M n ≤ 4) (b7 : bs M M7) (l7 : ∀ n, n < 100 → M7 154 n = lvlF M n)
    (h : ∀ M9 : zM, (∀ x j, dRf x j = false → M9 x j = M7 x j) → (∀ n, n < 100 → M9 154 n = lvlF M n) → (∀ j, j ≠ 98 → j ≠ 99 → dLd 102 j = false → M9 102 j = M7 102 j) → M9 102 98 = clF M (M 102 58).toNat → M9 102 99 = cbF M (M 102 58).toNat → Q 0 M9) : zP E mX12_costs [.inr (.inr 102)] M7 Q := by
  obtain ⟨-, -, -, -, ⟨wr, wb⟩, ⟨p2, p3⟩, -⟩ := id hO
  obtain ⟨W, hW⟩ : ∃ W : Nat, M 102 58 = (W : Int) := ⟨(M 102 58).toNat, by omega⟩
  obtain ⟨P, hP⟩ : ∃ P : Nat, M 102 69 = (P : Int) := ⟨(M 102 69).toNat, by omega⟩
  obtain ⟨A, hWT⟩ : ∃ A : Nat, M 102 51 * M 102 52 = (A : Int) := ⟨(M 102 51 * M 102 52).toNat, by have := (wt_O hO).1; omega⟩
  have hA64 : A ≤ 64 := by have := (wt_O hO).1; omega
  rw [hW, Int.toNat_natCast] at h
  refine vcX12_costs (fun m l1 M' => ∃ w : Nat, l1 = (w : Int) ∧ w ≤ W ∧ m = 10 - w ∧ (∀ x j, dRf x j = false → M' x j = M7 x j) ∧ (∀ n, n < 100 → M' 154 n = lvlF M n) ∧ (∀ j, j ≠ 98 → j ≠ 99 → dLd 102 j = false → M' 102 j = M7 102 j) ∧ M' 102 98 = clF M w ∧ M' 102 99 = cbF M w) ?_ ?_
  · intro M1 h1 M2 h2
    have f1 : ∀ x j, dRf x j = false → M1 x j = M7 x j := by rw [h1]; exact fr_up rfl
    have f2 : ∀ x j, dRf x j = false → M2 x j = M1 x j := by rw [h2]; exact fr_up rfl
    refine ⟨10 - 0, 0, rfl, by omega, rfl, fr_t f1 f2, fun n hn => by rw [h2, zup_ne _ _ _ (by decide), h1, zup_ne _ _ _ (by decide)]; exact l7 n hn, fun j j1 j2 _ => by rw [h2, zup_a, up1_n _ _ j2, h1, zup_a, up1_n _ _ j1], ?_, ?_⟩
    · rw [h2, zup_a, up1_n _ _ (by decide), h1, zup_a, up1_s]; rfl
    · rw [h2, zup_a, up1_s]; rfl
  · rintro m l1 M' ⟨w, rfl, hw, rfl, f', l', o', c1, c2⟩
    have b' : bs M M' := bs_t b7 (bs_fr f')
    have ew : M' 102 58 = (W : Int) := by rw [b' 102 58 (by decide) rfl]; exact hW
    rw [ew]
    refine ⟨⟨by unfold zR; omega, by unfold zR; omega⟩, fun q => ?_, fun q => ?_⟩
    · have : w = W := by omega
      subst this
      exact h M' f' l' o' c1 c2
    · have hw1 : (w : Int) < M 102 58 := by omega
      refine r_leadLO hO lr b' l' hw1 ?_
      intro M4 f4 e1 e2 e3 e4 e5
      have fr4 : ∀ x j, dRf x j = false → M4 x j = M7 x j := fr_t f' (fr_sub dLd_Rf f4)
      have b4 : bs M M4 := bs_t b7 (bs_fr fr4)
      refine ⟨by omega, ?_⟩
      have tn : ∀ p : Nat, p < P → M4 142 p = 0 ∨ M4 142 p = 1 := fun p hp => by
        rw [b4 142 p (by decide) rfl]
        rcases p3 p (by omega) with q0 | q0
        · exact Or.inr q0.1
        · exact Or.inl q0.1
      refine r_peopleB (P := P) (by rw [b4 102 69 (by decide) rfl]; exact hP) (by omega) tn ?_
      rw [bs_ap b4, Int.toNat_natCast, b4 136 w (by decide) rfl, e3, f4 102 98 rfl, c1]
      intro M7' h7'
      have f7' : ∀ x j, dRf x j = false → M7' x j = M4 x j := by rw [h7']; exact fr_up rfl
      have fr7 := fr_t fr4 f7'
      have bb7 : bs M M7' := bs_t b7 (bs_fr fr7)
      refine ⟨by omega, ?_⟩
      have ewt : M7' 102 51 * M7' 102 52 = (A : Int) := by rw [bb7 102 51 (by decide) rfl, bb7 102 52 (by decide) rfl]; exact hWT
      refine r_buriedB (sc := scF M w) ewt hA64 (fun j hj => ⟨by rw [h7', zup_ne _ _ _ (by decide)]; exact e4 j (by rw [hWT]; omega), (lvR_O (s := 12) hO hw1 (by omega) j (by rw [hWT]; omega)).2.2⟩) ?_
      have eB : sm A (buF M7' (scF M w)) = brF M w := by
        unfold brF
        rw [hWT, Int.toNat_natCast]
        refine sm_congr (fun j hj => ?_)
        unfold buF
        rw [bb7 129 j (by decide) rfl]
      have cb7 : M7' 102 99 = cbF M w := by rw [h7', zup_a, up1_n _ _ (by decide), f4 102 99 rfl]; exact c2
      rw [eB, bb7 136 w (by decide) rfl, cb7]
      intro M10 h10
      have f10 : ∀ x j, dRf x j = false → M10 x j = M7' x j := by rw [h10]; exact fr_up rfl
      refine ⟨10 - (w + 1), by omega, w + 1, by omega, by omega, rfl, fr_t fr7 f10, fun n hn => ?_, fun j j1 j2 j3 => ?_, ?_, ?_⟩
      · rw [h10, zup_ne _ _ _ (by decide), h7', zup_ne _ _ _ (by decide), f4 154 n rfl]
        exact l' n hn
      · rw [h10, zup_a, up1_n _ _ j2, h7', zup_a, up1_n _ _ j1, f4 102 j j3]
        exact o' j j1 j2 j3
      · rw [h10, zup_a, up1_n _ _ (by decide), h7', zup_a, up1_s]
        show _ = clF M w + M 136 w * (ap M (M 102 69).toNat - svF M w)
        rw [hP, Int.toNat_natCast]
      · rw [h10, zup_a, up1_s]
        rfl
