/-! rules(): what the class's reading leaves; the relation behind it -/
def kpO (b : Nat) (M : zM) : Prop := (0 ≤ M b 10 ∧ M b 10 ≤ 24) ∧ M 1 1 = 0 ∧ M 1 2 = -1
def dKe (b x j : Nat) : Bool := !(x == b && j == 10)
theorem kp_step {b : Nat} {N : zM} (hb : b = 6 ∨ b = 13) (hf : (stpM b N).1 = 0) (h : 0 ≤ N b 10 ∧ N b 10 ≤ 24) : 0 ≤ (stpM b N).2 b 10 ∧ (stpM b N).2 b 10 ≤ 24 := by
  have hD : okE b (dKe b) := by
    rcases hb with rfl | rfl <;> exact ⟨⟨rfl, rfl, rfl, rfl, rfl, rfl, rfl⟩, fun _ => rfl, fun _ => rfl, fun _ => ⟨rfl, rfl, rfl⟩, rfl, rfl, fun _ => rfl⟩
  have dl : dKe b 1 4 = true := by rcases hb with rfl | rfl <;> rfl
  have d2 : dKe b 1 5 = true := by rcases hb with rfl | rfl <;> rfl
  have d45 : ∀ j, dKe b (b + 4) j = true ∧ dKe b (b + 5) j = true := fun j => by rcases hb with rfl | rfl <;> exact ⟨rfl, rfl⟩
  have dv : dKe b b 8 = true := by rcases hb with rfl | rfl <;> rfl
  have r : ∀ x j, dKe b x j = false → N x j = N x j := fun _ _ _ => rfl
  have bk : dKe b b 10 = false := by rcases hb with rfl | rfl <;> rfl
  obtain ⟨⟨e1, e3, e4, e5, e6, e7, e8⟩, ew, ec, eb, es, ek, et⟩ := id hD
  by_cases d1 : N 1 3 = 1
  · have st : stpM b N = (jdg N 0 24, zup (zup (zup N b 11 1) b 10 (N 2 6)) 1 3 2) := by
      unfold stpM
      rw [if_neg (by omega), if_pos d1]
    rw [st] at hf ⊢
    dsimp only at hf ⊢
    rw [zup_ne _ _ _ (by omega), zup_q, if_pos ⟨rfl, rfl⟩]
    unfold jdg at hf
    by_cases q1 : N 2 4 = 16
    · rw [if_pos q1] at hf
      by_cases q2 : 0 ≤ N 2 6 ∧ N 2 6 ≤ 24
      · exact q2
      · rw [if_neg q2] at hf
        exact absurd hf (by decide)
    · rw [if_neg q1] at hf
      exact absurd hf (by decide)
  · have fr : ∀ x j, dKe b x j = false → (stpM b N).2 x j = N x j := by
      clear hf
      unfold stpM
      by_cases p0 : N 1 3 = 0
      · rw [if_pos p0]
        split
        · exact fz_up e1 r
        · split
          · exact fz_up e1 r
          · exact r
      · rw [if_neg p0, if_neg d1]
        by_cases p2 : N 1 3 = 2
        · rw [if_pos p2]
          exact fz_up e1 (fz_up dl r)
        · rw [if_neg p2]
          by_cases p3 : N 1 3 = 3
          · rw [if_pos p3]
            exact fz_up e1 (fz_up e5 (fz_up (ec _) (fz_up e4 (fz_up e3 (fz_up d2 r)))))
          · rw [if_neg p3]
            by_cases p4 : N 1 3 = 4
            · rw [if_pos p4]
              exact fy_A hD r
            · rw [if_neg p4]
              by_cases p5 : N 1 3 = 5
              · rw [if_pos p5]
                by_cases h17 : N 2 4 = 17 ∧ N 1 8 = 0
                · unfold stpB
                  rw [if_pos h17]
                  refine fz_up e1 (fz_up dl ?_)
                  unfold enM
                  split
                  · exact fz_up dv (fz_up (d45 _).2 (fz_up (d45 _).1 (fy_st hD _ _ r)))
                  · exact fy_st hD _ _ r
                · exact fy_B hD h17 r
              · rw [if_neg p5]
                exact fy_W hD r
    rw [fr _ _ bk]
    exact h
theorem rn_end {b : Nat} {t : Nat → Int} {n : Nat} (hb : b = 6 ∨ b = 13) (k a : Nat) (han : a ≤ n) (M : zM) (h : kpO b M) (f : Int) (M9 : zM) (hr : rnM b t n k a M = some (f, M9)) : (f = 0 → kpO b M9) ∧ (f = 0 ∨ f = 1 ∨ f = 2 ∨ f = 3) ∧ (f ≠ 0 → M9 1 1 = f ∧ 0 ≤ M9 1 2 ∧ M9 1 2 ≤ n) := by
  induction k generalizing a M with
  | zero => cases hr
  | succ k ih =>
    obtain ⟨e1, e2, e3, e4, e5⟩ := nxM_r M t n a
    have er : nxM M t n a 1 = M 1 := e4 _ (by decide)
    have eb : nxM M t n a b = M b := e4 b (by omega)
    have lr := lx_r (t := t) han
    obtain ⟨h1, h2, h3⟩ := h
    have sf : ∀ j, j = 1 ∨ j = 2 → (stpM b (nxM M t n a)).2 1 j = M 1 j := fun j hj => by
      rw [dS_step (b := b) (M := nxM M t n a) 1 j (by rcases hj with rfl | rfl <;> rcases hb with rfl | rfl <;> rfl), er]
    unfold rnM at hr
    split at hr
    · cases hr
      exact ⟨fun _ => ⟨by rw [eb]; exact h1, by rw [er]; exact h2, by rw [er]; exact h3⟩, Or.inl rfl, fun q => absurd rfl q⟩
    · split at hr
      · rename_i f0
        refine ih (lxE t n a) lr.2.1.2 _ ⟨?_, ?_, ?_⟩ hr
        · rw [zup_ne _ _ _ (by omega)]
          exact kp_step hb f0 (by rw [eb]; exact h1)
        · rw [zup_q, if_pos ⟨rfl, rfl⟩]
        · rw [zup_q, if_neg (by decide), sf _ (Or.inr rfl)]
          exact h3
      · rename_i f0
        cases hr
        refine ⟨fun q => absurd q f0, stp_f (fun v => v = 0 ∨ v = 1 ∨ v = 2 ∨ v = 3) (Or.inl rfl) (Or.inr (Or.inl rfl)) (Or.inr (Or.inr (Or.inl rfl))) (Or.inr (Or.inr (Or.inr rfl))), fun _ => ⟨?_, ?_, ?_⟩⟩
        · rw [zup_q, if_neg (by decide), zup_q, if_pos ⟨rfl, rfl⟩]
        · rw [zup_q, if_pos ⟨rfl, rfl⟩]
          omega
        · rw [zup_q, if_pos ⟨rfl, rfl⟩]
          have := lr.1.2
          omega
theorem rn_fr2 {b k f0 : Nat} {t : Nat → Int} {n : Nat} {f : Int} {M M9 : zM} (hb : b = 6 ∨ b = 13) (h : rnM b t n k f0 (st0M M b n) = some (f, M9)) : ∀ x, x ≠ 1 → x ≠ 4 → x ≠ 5 → x ≠ 2 → (x < b ∨ b + 5 < x) → M9 x = M x := fun x h1 h2 h3 h4 h5 => funext fun j => by
  rw [rn_fr k f0 _ f M9 h x j ?_]
  · unfold st0M
    rw [zup_ne _ _ _ h1, zup_ne _ _ _ h1, zup_ne _ _ _ h1, zup_ne _ _ _ h1, zup_ne _ _ _ (by omega), zup_ne _ _ _ (by omega), zup_ne _ _ _ (by omega), zup_ne _ _ _ (by omega), zup_ne _ _ _ (by omega), zup_ne _ _ _ h4, zup_ne _ _ _ h4, zup_ne _ _ _ h4]
  · cases hd : dXr b x j with
    | false => rfl
    | true =>
      exfalso
      unfold dXr dS at hd
      simp only [Bool.or_eq_true, Bool.and_eq_true, beq_iff_eq, decide_eq_true_eq, List.contains_cons, List.contains_nil, Bool.or_false] at hd
      omega
theorem rn_sz {b k f0 : Nat} {t : Nat → Int} {n : Nat} {f : Int} {M M9 : zM} (hb : b = 6 ∨ b = 13) (han : f0 ≤ n) (h : rnM b t n k f0 M = some (f, M9)) : M9 2 1 = M 2 1 := by
  induction k generalizing f0 M with
  | zero => cases h
  | succ k ih =>
    have en : nxM M t n f0 2 1 = M 2 1 := by
      unfold nxM
      rw [tpS_q, if_neg (by decide), if_neg (by decide), if_neg (by decide), if_neg (by decide)]
    have es : (stpM b (nxM M t n f0)).2 2 1 = M 2 1 := by rw [dS_step (b := b) (M := nxM M t n f0) 2 1 (by rcases hb with rfl | rfl <;> rfl), en]
    unfold rnM at h
    split at h
    · cases h
      exact en
    · split at h
      · rw [ih (lx_r (t := t) han).2.1.2 h, zup_ne _ _ _ (by decide), es]
      · cases h
        rw [zup_ne _ _ _ (by decide), zup_ne _ _ _ (by decide), es]
/-- what rules() may change, when a fault is told; when none is -/
def cF (b x j : Nat) : Prop := x = 1 ∨ x = 4 ∨ x = 5 ∨ x = 2 ∨ (b ≤ x ∧ x ≤ b + 5) ∨ jQ x j
def cG (b x j : Nat) : Prop := cF b x j ∨ (x = 0 ∧ (j = 2 ∨ j = 3 ∨ j = 6 ∨ j = 7)) ∨ ((x = 70 ∨ x = 80 ∨ x = 90) ∧ j = 10) ∨ ((x = 99 ∨ x = 100 ∨ x = 101) ∧ j = 0)
theorem bk_d {k : Nat} {M : zM} (hA : RelA k M) : ∃ f b : Nat, M 0 2 = (f : Int) ∧ M 0 3 = (b : Int) ∧ ((f = 6 ∧ b = 13) ∨ (f = 13 ∧ b = 6)) := by
  obtain ⟨-, -, -, -, -, -, -, -, -, -, -, -, ⟨j0, -⟩, -⟩ := hA
  rcases j0 with ⟨a, c⟩ | ⟨a, c⟩
  · exact ⟨_, _, a, c, Or.inl ⟨rfl, rfl⟩⟩
  · exact ⟨_, _, a, c, Or.inr ⟨rfl, rfl⟩⟩
def tzF (M : zM) : Prop := (M 2 1 = 0 ∧ M 102 1 = 0) ∧ (M 1 1 = M 102 15 ∧ M 1 2 = M 102 16 ∧ (0 ≤ M 102 15 ∧ M 102 15 ≤ 3) ∧ (-1 ≤ M 102 16 ∧ M 102 16 ≤ 500))
theorem tz_t {M M' : zM} (h : rTape M) (z : tzF M') (e1 : M' 103 = M 103) (e2 : M' 3 = M 3) : rTape M' := by
  obtain ⟨t1, t2, t3, t4, t5⟩ := h
  obtain ⟨⟨z1, z2⟩, -⟩ := z
  exact ⟨by rw [z1, z2], by omega, fun i hi => by omega, fun i => by rw [e1]; exact t4 i, fun i => by rw [e2]; exact t5 i⟩
set_option maxHeartbeats 4000000 in
theorem a_ok {k b : Nat} {M M' : zM} (hA : RelA k M) (hb : b = 6 ∨ b = 13) (F : ∀ x j, ¬ cG b x j → M' x j = M x j) (z : tzF M') (hB : rBks M') (hK : rKpt M') : RelA (k + 1) M' := by
  obtain ⟨h0, h1, h2, h3, h4, h5, h6, h7, h8, h9, h10, h11, h12, h13⟩ := RelA_up hA
  refine ⟨zFix_c (fun x j hx => F x j (by simp only [dFix, dNow, dPst, dRdg, dLnd, dWks, dWld, dPlc, dRds, dWnd, dLv, Bool.or_eq_true, Bool.and_eq_true, beq_iff_eq, List.contains_cons, List.contains_nil, Bool.or_false] at hx; unfold cG cF jQ; omega)) h0, tz_t h1 z (funext fun j => F _ j (by unfold cG cF jQ; omega)) (funext fun j => F _ j (by unfold cG cF jQ; omega)), z.2, rNow_c (fun x j hx => F x j (by simp only [dFix, dNow, dPst, dRdg, dLnd, dWks, dWld, dPlc, dRds, dWnd, dLv, Bool.or_eq_true, Bool.and_eq_true, beq_iff_eq, List.contains_cons, List.contains_nil, Bool.or_false] at hx; unfold cG cF jQ; omega)) h3, rPst_c (fun x j hx => F x j (by simp only [dFix, dNow, dPst, dRdg, dLnd, dWks, dWld, dPlc, dRds, dWnd, dLv, Bool.or_eq_true, Bool.and_eq_true, beq_iff_eq, List.contains_cons, List.contains_nil, Bool.or_false] at hx; unfold cG cF jQ; omega)) h4, rRdg_c (fun x j hx => F x j (by simp only [dFix, dNow, dPst, dRdg, dLnd, dWks, dWld, dPlc, dRds, dWnd, dLv, Bool.or_eq_true, Bool.and_eq_true, beq_iff_eq, List.contains_cons, List.contains_nil, Bool.or_false] at hx; unfold cG cF jQ; omega)) h5, rLnd_c (fun x j hx => F x j (by simp only [dFix, dNow, dPst, dRdg, dLnd, dWks, dWld, dPlc, dRds, dWnd, dLv, Bool.or_eq_true, Bool.and_eq_true, beq_iff_eq, List.contains_cons, List.contains_nil, Bool.or_false] at hx; unfold cG cF jQ; omega)) h6, rWks_c (fun x j hx => F x j (by simp only [dFix, dNow, dPst, dRdg, dLnd, dWks, dWld, dPlc, dRds, dWnd, dLv, Bool.or_eq_true, Bool.and_eq_true, beq_iff_eq, List.contains_cons, List.contains_nil, Bool.or_false] at hx; unfold cG cF jQ; omega)) h7, rWld_c (fun x j hx => F x j (by simp only [dFix, dNow, dPst, dRdg, dLnd, dWks, dWld, dPlc, dRds, dWnd, dLv, Bool.or_eq_true, Bool.and_eq_true, beq_iff_eq, List.contains_cons, List.contains_nil, Bool.or_false] at hx; unfold cG cF jQ; omega)) h8, rPlc_c (fun x j hx => F x j (by simp only [dFix, dNow, dPst, dRdg, dLnd, dWks, dWld, dPlc, dRds, dWnd, dLv, Bool.or_eq_true, Bool.and_eq_true, beq_iff_eq, List.contains_cons, List.contains_nil, Bool.or_false] at hx; unfold cG cF jQ; omega)) h9, rRds_c (fun x j hx => F x j (by simp only [dFix, dNow, dPst, dRdg, dLnd, dWks, dWld, dPlc, dRds, dWnd, dLv, Bool.or_eq_true, Bool.and_eq_true, beq_iff_eq, List.contains_cons, List.contains_nil, Bool.or_false] at hx; unfold cG cF jQ; omega)) h10, rWnd_c (fun x j hx => F x j (by simp only [dFix, dNow, dPst, dRdg, dLnd, dWks, dWld, dPlc, dRds, dWnd, dLv, Bool.or_eq_true, Bool.and_eq_true, beq_iff_eq, List.contains_cons, List.contains_nil, Bool.or_false] at hx; unfold cG cF jQ; omega)) h11, hB, hK⟩
set_option maxHeartbeats 4000000 in
theorem k_ok {k b L kn o : Nat} {M M' : zM} (h : REL k M) (hbk : M 0 3 = (b : Int)) (F : ∀ x j, ¬ cG b x j → M' x j = M x j) (z : tzF M') (bk : M' 0 2 = (b : Int) ∧ M' 0 3 = M 0 2) (ln : M' b 8 = (L : Int) ∧ M' 102 32 = (L : Int) ∧ L ≤ 12) (kp : M' b 10 = M' 102 34 ∧ (0 ≤ M' 102 34 ∧ M' 102 34 ≤ 24)) (kt : M' b 9 = (kn : Int) ∧ M' 102 37 = (kn : Int) ∧ kn ≤ 64) (bL : bkL b M' L o) (ho : o ≤ 64) (rk : M' 0 6 = 0) (fl : M' 0 7 = 0 ∧ (∀ w : Nat, w < 3 → M' (fid w) 10 = 0) ∧ (∀ m : Nat, m < 3 → M' (plid m) 0 = 0)) : REL (k + 1) M' := by
  obtain ⟨f, b', hf, hb', fb⟩ := bk_d h.1
  have eb : b' = b := by omega
  subst eb
  have hb : b' = 6 ∨ b' = 13 := by omega
  have B : rBks M' := by
    unfold rBks
    rw [bk.1, bk.2, hf, Int.toNat_natCast, ln.1, ln.2.1, kp.1, kt.1, kt.2.1]
    refine ⟨?_, rfl, rfl, rfl, by omega, kp.2, by omega⟩
    rcases fb with ⟨q1, q2⟩ | ⟨q1, q2⟩ <;> subst q1 <;> subst q2
    · exact Or.inr ⟨rfl, rfl⟩
    · exact Or.inl ⟨rfl, rfl⟩
  have hA' := a_ok h.1 hb F z B ⟨by omega, Or.inl fl.1⟩
  have ta : M' 26 = M 26 := funext fun j => F _ j (by unfold cG cF jQ; omega)
  refine REL_mut2 h hA' ⟨fun j j1 j2 => by rw [ta]; exact h.2.1.1.1.1 j j1 j2, fun l hl => ?_⟩ (fun i hi => by omega) (rStp_m h.1 (fun x j hx => F x j (by simp only [dFix, dNow, dPst, dRdg, dLnd, dWks, dWld, dPlc, dRds, dWnd, dLv, Bool.or_eq_true, Bool.and_eq_true, beq_iff_eq, List.contains_cons, List.contains_nil, Bool.or_false] at hx; unfold cG cF jQ; omega)) h.2.1.2.1) fl (cnd_k h.2.2.2.1 (F _ _ (by unfold cG cF jQ; omega)) (funext fun j => F _ j (by unfold cG cF jQ; omega)) (by rw [F 102 51 (by unfold cG cF jQ; omega), F 102 52 (by unfold cG cF jQ; omega)])) (funext fun j => F _ j (by unfold cG cF jQ; omega))
  rw [ln.2.1] at hl
  rw [bk.1, Int.toNat_natCast]
  exact bkL_ok bL ho l (by omega)
set_option maxHeartbeats 4000000 in
theorem k_fault {k b : Nat} {M M' : zM} (h : REL k M) (hbk : M 0 3 = (b : Int)) (F0 : ∀ x j, ¬ cF b x j → M' x j = M x j) (z : tzF M') (lo : lowE M M') (kk : M' 102 34 = M 102 34 ∧ M' 102 37 = M 102 37) : REL (k + 1) M' := by
  have F : ∀ x j, ¬ cG b x j → M' x j = M x j := fun x j hn => F0 x j (fun q => hn (Or.inl q))
  obtain ⟨f, b', hf, hb', fb⟩ := bk_d h.1
  have eb : b' = b := by omega
  subst eb
  have hb : b' = 6 ∨ b' = 13 := by omega
  have hff : f < b' ∨ b' + 5 < f := by omega
  have hff5 : ∀ i, i ≤ 5 → (f + i < b' ∨ b' + 5 < f + i) ∧ f + i ≠ 1 ∧ f + i ≠ 4 ∧ f + i ≠ 5 ∧ f + i ≠ 2 ∧ f + i < 102 := fun i hi => by omega
  have eW : M' 0 = M 0 := funext fun j => F0 _ j (by unfold cF jQ; omega)
  have ef : ∀ i, i ≤ 5 → M' (f + i) = M (f + i) := fun i hi => funext fun j => F0 _ j (by
    obtain ⟨p1, p2, p3, p4, p5, p6⟩ := hff5 i hi
    unfold cF jQ
    omega)
  have ef0 : M' f = M f := ef 0 (by decide)
  obtain ⟨-, -, -, -, -, -, -, -, -, -, -, -, ⟨j0, j1, j2, j3, j4, j5, j6⟩, j7⟩ := id h.1
  rw [hf, Int.toNat_natCast] at j1 j2 j3
  have B : rBks M' := by
    unfold rBks
    rw [eW, hf, Int.toNat_natCast, ef0, lo.1, kk.1, kk.2]
    refine ⟨?_, j1, j2, j3, j4, j5, j6⟩
    rw [← hf]
    exact j0
  have K : rKpt M' := by
    unfold rKpt at j7 ⊢
    rw [eW]
    exact j7
  have hA' := a_ok h.1 hb F z B K
  have JS : js M M' := fun x j hx hn => F0 x j (by
    unfold jQ at hn
    unfold cF jQ
    omega)
  have VE : ∀ k, vEq M M' k := fun k => by
    have er : M' 102 6 = M 102 6 := JS _ _ (by decide) (by unfold jQ; omega)
    refine ⟨fun a => ?_, js_g JS (by decide) (by decide), JS _ _ (by decide) (by unfold jQ; omega)⟩
    rw [er]
    exact kn_congr (js_g JS (by decide) (by decide)) (js_g JS (by decide) (by decide)) (js_g JS (by decide) (by decide)) (js_g JS (by decide) (by decide)) (js_g JS (by decide) (by decide)) ..
  obtain ⟨-, ⟨⟨c1, c2, c3⟩, c4, c5⟩, c6, c7, c8⟩ := id h
  have WF := wfF_j c1 j4 VE lo JS
  have low : ∀ y, y < 102 → y ≠ 1 → y ≠ 4 → y ≠ 5 → y ≠ 2 → (y < b' ∨ b' + 5 < y) → M' y = M y := fun y y1 y2 y3 y4 y5 y6 => funext fun j => F0 _ j (by unfold cF jQ; omega)
  refine ⟨hA', ⟨⟨rBok_j c1 j4 lo hf (by rw [eW]; exact hf) (fun i i1 i2 => ef i i2) (low _ (by decide) (by decide) (by decide) (by decide) (by decide) (by omega)), fun i hi => ?_, fun q p hp ht => ?_⟩, rStp_m h.1 (fun x j hx => F x j (by simp only [dFix, dNow, dPst, dRdg, dLnd, dWks, dWld, dPlc, dRds, dWnd, dLv, Bool.or_eq_true, Bool.and_eq_true, beq_iff_eq, List.contains_cons, List.contains_nil, Bool.or_false] at hx; unfold cG cF jQ; omega)) c4, rLed_j h.1 JS WF (fun w hw => ?_) c5⟩, rPln_j h.1 JS WF (fun m hm => ?_) c6, cnd_k c7 (JS _ _ (by decide) (by unfold jQ; omega)) (js_g JS (by decide) (by decide)) (by rw [JS 102 51 (by decide) (by unfold jQ; omega), JS 102 52 (by decide) (by unfold jQ; omega)]), wds_e (js_g JS (by decide) (by decide)) c8⟩
  · rw [eW] at hi
    rw [low 27 (by decide) (by decide) (by decide) (by decide) (by decide) (by omega), rawF_j c1 j4 (VE _) lo]
    exact c2 i hi
  · rw [eW] at q
    rw [JS 102 69 (by decide) (by unfold jQ; omega)] at hp
    rw [js_g JS (y := 142) (by decide) (by decide)] at ht
    rw [low 50 (by decide) (by decide) (by decide) (by decide) (by decide) (by omega), WF]
    exact c3 q p hp ht
  · have e : ∀ i, i ≤ 8 → M' (fid w + i) = M (fid w + i) := fun i hi => by
      rcases fid3 hw with ⟨-, e⟩ | ⟨-, e⟩ | ⟨-, e⟩ <;> rw [e] <;> exact low _ (by omega) (by omega) (by omega) (by omega) (by omega) (by omega)
    rw [show M' (fid w) = M (fid w) from e 0 (by omega)]
    exact ⟨rfl, rfl, e 7 (by omega)⟩
  · have := pid (plid3 hm)
    exact low _ (by omega) (by omega) (by omega) (by omega) (by omega) (by omega)
