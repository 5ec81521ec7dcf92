/-! the class's search: a set of works weighed -/
theorem cI_bw {M0 V M' : zM} {p : Nat} {s : zS4} (hbw : bw M0 V) (hS : cI M0 p V s M') : bw V M' := fun x j hx a b c hd => by
  rw [hS.2.1 x hx]
  exact (hbw x j hx a b c hd).symm
theorem cI_pl {M0 V M' : zM} {k p : Nat} {s : zS4} (hV : RelA k V) (hbw : bw M0 V) (hp : zIs_4 (p : Int)) (hS : cI M0 p V s M') : rPlc M' ∧ rRds M' := by
  have q := pid hp
  obtain ⟨-, -, -, -, -, -, -, -, -, hpl, hrd, -⟩ := hV
  have key : ∀ x j, (x < 102 → xK p x) → (102 ≤ x → x ≠ 130 ∧ x ≠ 131 ∧ (x ≠ 102 ∨ j ≠ 57) ∧ dNb x j = false) → M' x j = V x j := fun x j h1 h2 => by
    by_cases hlt : x < 102
    · rw [hS.1 x hlt (h1 hlt)]
    · obtain ⟨a1, a2, a3, a4⟩ := h2 (by omega)
      exact cI_bw hbw hS x j (by omega) a1 a2 a3 a4
  have nd : ∀ x j, (∀ (_ : dNb x j = true), False) → dNb x j = false := fun x j hf => by
    cases hd : dNb x j with
    | false => rfl
    | true => exact absurd hd (fun q => hf q)
  refine ⟨rPlc_c (fun x j hx => ?_) hpl, rRds_c (fun x j hx => ?_) hrd⟩
  · simp only [dPlc, Bool.or_eq_true, Bool.and_eq_true, beq_iff_eq, List.contains_cons, List.contains_nil, Bool.or_false] at hx
    refine key x j (fun hlt => ?_) (fun hge => ⟨by omega, by omega, by omega, nd x j (fun hd => ?_)⟩)
    · unfold xK
      omega
    · simp only [dNb, dRf, dLd, dV, Bool.or_eq_true, Bool.and_eq_true, beq_iff_eq, List.contains_cons, List.contains_nil, Bool.or_false] at hd
      omega
  · simp only [dRds, Bool.or_eq_true, Bool.and_eq_true, beq_iff_eq, List.contains_cons, List.contains_nil, Bool.or_false] at hx
    refine key x j (fun hlt => ?_) (fun hge => ⟨by omega, by omega, by omega, nd x j (fun hd => ?_)⟩)
    · unfold xK
      omega
    · simp only [dNb, dRf, dLd, dV, Bool.or_eq_true, Bool.and_eq_true, beq_iff_eq, List.contains_cons, List.contains_nil, Bool.or_false] at hd
      omega
theorem nt_bw {V M' : zM} {sc : Nat → Int} {w : Nat} (b : bw V M') (h : ntOk V sc w) : ntOk M' sc w := by
  obtain ⟨e1, e2, e3⟩ := bw_nt b
  unfold ntOk at h ⊢
  rw [e1, e2, e3 132 (by simp), e3 142 (by simp), e3 147 (by simp), e3 144 (by simp), e3 143 (by simp), e3 148 (by simp), e3 149 (by simp), e3 150 (by simp), e3 151 (by simp)]
  exact h
theorem wid_c {w : Nat} : wid w = 69 ∨ wid w = 79 ∨ wid w = 89 := by
  unfold wid
  split
  · exact Or.inl rfl
  · split
    · exact Or.inr (Or.inl rfl)
    · exact Or.inr (Or.inr rfl)
theorem fix_w {M : zM} (h : zFix M) {w : Nat} (hw : w < 3) : M 33 w = (wid w : Int) ∧ M 34 w = (fid w : Int) := by
  obtain ⟨⟨a0, a1, a2⟩, ⟨b0, b1, b2⟩, -⟩ := h
  have : w = 0 ∨ w = 1 ∨ w = 2 := by omega
  rcases this with rfl | rfl | rfl
  · exact ⟨a0, b0⟩
  · exact ⟨a1, b1⟩
  · exact ⟨a2, b2⟩
theorem fid_is {w : Nat} (hw : w < 3) : zIs_0 (fid w : Int) := by
  rcases fid3 hw with ⟨-, e⟩ | ⟨-, e⟩ | ⟨-, e⟩ <;> rw [e] <;> unfold zIs_0 <;> simp
set_option maxHeartbeats 16000000 in
theorem c_weigh {E : zE} {M0 V M' : zM} {Q : Int → zM → Prop} {k p W : Nat} {a b : Int} {s : zS4} (hM0 : RelA k M0) (hn : M0 0 7 = 1) (hwr : rWrn M0) (hfc : ∀ w : Nat, (w : Int) < M0 102 58 → fcOk M0 M0 (fid w) w ∧ ldOk M0 (fid w) w) (hV : RelA k V) (hbw : bw M0 V)
    (hlo : ∀ x, x < 102 → x ≠ 28 → x ≠ 31 → V x = M0 x) (hW : M0 102 58 = (W : Int)) (hp : zIs_4 (p : Int)) (hs : sOk s) (hS : cI M0 p V s M')
    (h : ∀ M9 : zM, cI M0 p V (offS s a b (clF V W) (cbF V W)) M9 → Q 0 M9) : zP E mX11_weigh [.inr (.inr 0), .inr (.inr (p : Int)), .inl a, .inl b] M' Q := by
  have hO := refOk_A hV
  have qp := pid hp
  obtain ⟨hfx, -, -, -, -, -, hl, -, ⟨wc, wr, wwf, wb⟩, hpl, hrd, -⟩ := id hV
  have hplV := hpl
  obtain ⟨p1, p2, p3, p4⟩ := hpl
  obtain ⟨r1, r2, r3⟩ := hrd
  have wt := (wt_r hl).1
  have vW : V 102 58 = (W : Int) := (hbw 102 58 (by decide) (by decide) (by decide) (Or.inr (by decide)) rfl).trans hW
  have vA : V 102 51 * V 102 52 = M0 102 51 * M0 102 52 := by
    rw [hbw 102 51 (by decide) (by decide) (by decide) (Or.inr (by decide)) rfl, hbw 102 52 (by decide) (by decide) (by decide) (Or.inr (by decide)) rfl]
  obtain ⟨P, hP⟩ : ∃ P : Nat, V 102 69 = (P : Int) := ⟨(V 102 69).toNat, by omega⟩
  obtain ⟨R, hR⟩ : ∃ R : Nat, V 102 76 = (R : Int) := ⟨(V 102 76).toNat, by omega⟩
  have W3 : W ≤ 3 := by omega
  have apr := ap_O hO
  rw [hP, Int.toNat_natCast] at apr
  have eP : ∀ M2, cI M0 p V s M2 → M2 102 69 = (P : Int) := fun M2 h2 => ((cI_bw hbw h2) 102 69 (by decide) (by decide) (by decide) (Or.inr (by decide)) rfl).trans hP
  have eI : ∀ (M2 M4 : zM) (s' : zS4), cI M0 p V s M2 → (∀ x, x ≠ p → M4 x = M2 x) → plS p s' M4 → cI M0 p V s' M4 := fun M2 M4 s' h2 f4 p4 => ⟨fun x hx hk => by rw [f4 x hk.2.2]; exact h2.1 x hx hk, fun x hx => by rw [f4 x (by omega)]; exact h2.2.1 x hx, p4⟩
  refine vcX11_weigh _ _ _ hp (fun n l2 l3 l4 l5 l6 l7 M2 => a = l2 ∧ b = l3 ∧ l4 = ap V P ∧ ∃ w : Nat, l7 = (w : Int) ∧ w ≤ W ∧ n = 10 - w ∧ l5 = clF V w ∧ l6 = cbF V w ∧ cI M0 p V s M2) ?_ ?_
  · refine c_people (cI_pl hV hbw hp hS).1 ?_
    rw [eP M' hS, Int.toNat_natCast, bw_ap (cI_bw hbw hS)]
    exact ⟨10 - 0, rfl, rfl, rfl, 0, rfl, by omega, rfl, rfl, rfl, hS⟩
  · rintro n l2 l3 l4 l5 l6 l7 M2 ⟨rfl, rfl, rfl, w, rfl, hw, rfl, rfl, rfl, hS2⟩
    have ew : M2 0 11 = (W : Int) := by
      rw [hS2.1 0 (by decide) (by unfold xK; omega), wc]
      exact vW
    have el : M2 p 3 = s.2.2.1 := hS2.2.2.2.2.1
    have cb := cost_O hO w (by omega)
    have cW := cost_O hO W (by omega)
    have up := cost_up hO w (W - w) (by omega)
    rw [show w + (W - w) = W by omega] at up
    obtain ⟨s1, s2, s3, s4⟩ := id hs
    rw [ew, Int.toNat_natCast p, el, Int.toNat_natCast w]
    refine ⟨⟨by unfold zR; omega, by unfold zR; omega⟩, fun q => ?_, fun q => ⟨⟨by unfold zR; omega, by unfold zR; omega⟩, fun q2 => ?_, fun q2 => ⟨by omega, ?_⟩⟩⟩
    · have hwW : w = W := by omega
      subst hwW
      refine c_offer hp hs hS2.2.2 (by unfold zR; omega) (by unfold zR; omega) ?_
      exact fun M4 f4 p4 => h M4 (eI M2 M4 _ hS2 f4 p4)
    · refine c_offer hp hs hS2.2.2 (by unfold zR; omega) (by unfold zR; omega) ?_
      intro M4 f4 p4
      refine h M4 (eI M2 M4 _ hS2 f4 ?_)
      have e1 : offS s a b (clF V w) (cbF V w) = s := by unfold offS; rw [if_neg (by omega)]
      have e2 : offS s a b (clF V W) (cbF V W) = s := by unfold offS; rw [if_neg (by omega)]
      rw [e1] at p4
      rw [e2]
      exact p4
    · have w3 : w < 3 := by omega
      have hw1 : (w : Int) < V 102 58 := by omega
      have hw0 : (w : Int) < M0 102 58 := by omega
      have hwid := wid_c (w := w)
      have ff := fid3 w3
      have fx := fix_w hfx w3
      have gw : ∀ M3, cI M0 p V s M3 → M3 33 w = (wid w : Int) ∧ M3 34 w = (fid w : Int) := fun M3 h3 => by
        rw [h3.1 33 (by decide) (by unfold xK; omega), h3.1 34 (by decide) (by unfold xK; omega)]
        exact fx
      rw [(gw M2 hS2).1]
      have hF0 : zIs_0 ((35 : Nat) : Int) := by unfold zIs_0; simp
      refine c_stepLavaG (M0 := V) (f := 35) hV (fun x hx => hS2.1 x (by omega) (by unfold xK; omega)) hF0 hw1 ?_
      intro M8 f8 g8 st8 fc8
      have hS8 : cI M0 p V s M8 := by
        refine ⟨fun x hx hk => ?_, fun x hx => ?_, ?_⟩
        · obtain ⟨k1, k2, k3⟩ := id hk
          rw [f8 x (by omega) (by omega) (by omega) (by omega) (by omega) (by omega) (by omega)]
          exact hS2.1 x hx hk
        · rw [f8 x (by omega) (by omega) (by omega) (by omega) (by omega) (by omega) (by omega)]
          exact hS2.2.1 x hx
        · unfold plS
          rw [f8 p (by omega) (by omega) (by omega) (by omega) (by omega) (by omega) (by omega)]
          exact hS2.2.2
      have b8 := cI_bw hbw hS8
      refine ⟨by omega, ?_⟩
      rw [(gw M8 hS8).2]
      have lo8 : ∀ x, x < 102 → xK p x → x ≠ 28 → x ≠ 31 → M8 x = M0 x := fun x hx hk a1 a2 => (hS8.1 x hx hk).trans (hlo x hx a1 a2)
      have scV : ∀ c : Nat, (c : Int) < V 102 51 * V 102 52 → M8 (35 + 3) c = scF V w c ∧ zR (scF V w c) := fun c hc => ⟨fc8.2.1 c hc, by have := (lvR_ok (s := 12) hV hw1 (by omega) c hc).2.2; unfold scF zR; omega⟩
      have scM : ∀ c : Nat, (c : Int) < V 102 51 * V 102 52 → M8 (fid w + 3) c = scF M0 w c ∧ zR (scF M0 w c) := fun c hc => by
        rw [vA] at hc
        rw [lo8 (fid w + 3) (by omega) (by unfold xK; omega) (by omega) (by omega)]
        exact ⟨(hfc w hw0).1.2.1 c hc, by have := (lvR_ok (s := 12) hM0 hw0 (by omega) c hc).2.2; unfold scF zR; omega⟩
      have ecl : M8 45 = V 45 := hS8.1 _ (by decide) (by unfold xK; omega)
      have erc : M8 56 = V 56 := hS8.1 _ (by decide) (by unfold xK; omega)
      have eplc : M8 44 = V 44 := hS8.1 _ (by decide) (by unfold xK; omega)
      have nx : ∀ M12 : zM, cI M0 p V s M12 → M12 35 8 = svF V w → M12 35 3 = brF V w → ((0 ≤ (w : Int) ∧ (w : Int) < 3) ∧ zIs_10 (M12 33 w) ∧ (0 ≤ (w : Int) ∧ (w : Int) < 3) ∧ ∃ n', n' < 10 - w ∧ (a = a ∧ b = b ∧ ap V P = ap V P ∧ ∃ w' : Nat, (w : Int) + 1 = (w' : Int) ∧ w' ≤ W ∧ n' = 10 - w' ∧ clF V w + M12 (M12 33 w).toNat 4 * (ap V P - M12 35 8) = clF V w' ∧ cbF V w + M12 (M12 33 w).toNat 4 * M12 35 3 = cbF V w' ∧ cI M0 p V s M12)) := by
        intro M12 h12 e1 e2
        have ewt : M12 (wid w) 4 = V 136 w := by
          rw [h12.1 (wid w) (by omega) (by unfold xK; omega)]
          exact (wwf w w3).2.2.2.2
        rw [(gw M12 h12).1, Int.toNat_natCast, ewt, e1, e2]
        refine ⟨by omega, (wid3 w3).1, by omega, 10 - (w + 1), by omega, rfl, rfl, rfl, w + 1, by omega, by omega, rfl, ?_, rfl, h12⟩
        show _ = clF V w + V 136 w * (ap V (V 102 69).toNat - svF V w)
        rw [hP, Int.toNat_natCast]
      have eb8 : M8 35 3 = brF V w := fc8.2.2
      refine c_shutsLike (f := 35) (g := fid w) (P := P) (R := R) hF0 (fid_is w3) (by rw [eplc, p1]; exact hP) (by omega) (by rw [eplc, r1]; exact hR) (by omega) (fun i hi => ?_) (fun i hi => ?_) ?_ ?_
      · rw [ecl]
        rcases p3 i (by omega) with ⟨a1, a2, a3, a4, a5, a6, a7, -⟩ | ⟨a1, a2, -⟩
        · rw [a2]
          obtain ⟨x1, x2⟩ := scV (V 143 i).toNat (by omega)
          obtain ⟨y1, y2⟩ := scM (V 143 i).toNat (by omega)
          rw [x1, y1]
          exact Or.inr ⟨by omega, x2, y2⟩
        · exact Or.inl a2
      · rw [erc]
        obtain ⟨-, -, -, -, -, a6, -, -, -, -, -, -, a13⟩ := r3 i (by omega)
        rw [a6]
        rcases a13 with q3 | q3
        · exact Or.inl q3
        · obtain ⟨x1, x2⟩ := scV (V 153 i).toNat (by omega)
          obtain ⟨y1, y2⟩ := scM (V 153 i).toNat (by omega)
          rw [x1, y1]
          exact Or.inr ⟨by omega, x2, y2⟩
      · intro k1 k2
        rw [ecl] at k1
        rw [erc] at k2
        refine ⟨zRd rfl, fun q3 => absurd q3 (by decide), fun _ => ⟨by omega, by rw [(gw M8 hS8).2]; exact fid_is w3, fun M15 h15 => ?_⟩⟩
        rw [(gw M8 hS8).2, Int.toNat_natCast] at h15
        have hS15 : cI M0 p V s M15 := by
          refine ⟨fun x hx hk => ?_, fun x hx => ?_, ?_⟩
          · obtain ⟨k1, k2, k3⟩ := id hk
            rw [h15, zup_ne _ _ _ (by omega)]
            exact hS8.1 x hx hk
          · rw [h15, zup_ne _ _ _ (by omega)]
            exact hS8.2.1 x hx
          · unfold plS
            rw [h15, zup_ne _ _ _ (by omega)]
            exact hS8.2.2
        have esv : svF V w = svF M0 w := by
          obtain ⟨n1, n2, -⟩ := net_c (M := V) (M' := M8) (sc := scF V w) (sc' := scF M0 w) (wf := wfF V) (wf' := wfF M0) (w := w) (bw_nt b8) (rd_in hV) (fun i hi q3 => by
            rcases p3 i hi with ⟨a1, a2, a3, a4, a5, a6, a7, -⟩ | ⟨a1, -⟩
            · have := k1 i (by omega) (by rw [a2]; omega)
              rw [a2, (scV (V 143 i).toNat (by omega)).1, (scM (V 143 i).toNat (by omega)).1] at this
              exact this.symm
            · exact absurd a1 q3) (fun i hi q3 => by
            obtain ⟨-, -, -, -, -, a6, -, -, -, -, -, -, a13⟩ := r3 i hi
            have q4 := a13.resolve_left q3
            have := k2 i (by omega) (by rw [a6]; exact q3)
            rw [a6, (scV (V 153 i).toNat (by omega)).1, (scM (V 153 i).toNat (by omega)).1] at this
            exact this.symm) (fun i _ _ => by rw [bw_wf hbw])
          obtain ⟨m1, m2, -⟩ := net_c (M := M0) (M' := M8) (sc := scF M0 w) (sc' := scF M0 w) (wf := wfF M0) (wf' := wfF M0) (w := w) (bw_nt (bw_t hbw b8)) (rd_in hM0) (fun _ _ _ => rfl) (fun _ _ _ => rfl) (fun _ _ _ => rfl)
          have eN : ntF V w = ntF M0 w := by
            unfold ntF
            rw [← n1, m1]
          have e0 : M0 102 69 = (P : Int) := by
            have := hbw 102 69 (by decide) (by decide) (by decide) (Or.inr (by decide)) rfl
            omega
          unfold svF
          rw [eN, hP, e0, Int.toNat_natCast, ← n2 P (by omega), m2 P (by omega)]
        refine nx M15 hS15 ?_ ?_
        · rw [h15, zup_q, if_pos ⟨rfl, rfl⟩, lo8 (fid w) (by omega) (by unfold xK; omega) (by omega) (by omega), esv]
          exact (hfc w hw0).2.1
        · rw [h15, zup_q, if_neg (by decide)]
          exact eb8
      · refine ⟨zRd rfl, fun _ => ⟨by omega, ?_⟩, fun q3 => absurd rfl q3⟩
        rw [(gw M8 hS8).1]
        have nt := nt_bw b8 (nt_rel hV hw1)
        obtain ⟨hp8, hr8⟩ := cI_pl hV hbw hp hS8
        have es8 : M8 132 w = V 132 w := b8 132 w (by decide) (by decide) (by decide) (Or.inl (by decide)) rfl
        have lc : lcOk M8 (scF V w) (wfF V) 35 w := by
          refine ⟨nt, hp8, hr8, w3, ?_, fun c hc => ?_, fun i hi q3 => ⟨?_, ?_⟩, hF0, ?_⟩
          · rw [hS8.1 (wid w) (by omega) (by unfold xK; omega), es8]
            exact (wwf w w3).1
          · rw [b8 102 51 (by decide) (by decide) (by decide) (Or.inr (by decide)) rfl, b8 102 52 (by decide) (by decide) (by decide) (Or.inr (by decide)) rfl] at hc
            exact ⟨(scV c hc).1, (lvR_ok (s := 12) hV hw1 (by omega) c hc).2.2⟩
          · rw [lo8 50 (by decide) (by unfold xK; omega) (by decide) (by decide), bw_wf hbw]
            rw [hS8.2.1 102 (by decide)] at hi
            rw [hS8.2.1 142 (by decide)] at q3
            exact hwr hn i hi q3
          · have hi' : (i : Int) < V 102 69 := by rw [hP, ← eP M8 hS8]; exact hi
            have q3' : V 142 i = 1 := by rw [← b8 142 i (by decide) (by decide) (by decide) (Or.inl (by decide)) rfl]; exact q3
            have lg : 0 ≤ V 146 i ∧ V 146 i ≤ 5 := by
              rcases p3 i hi' with ⟨a1, a2, a3, a4, a5, a6, a7, a8, a9, a10⟩ | ⟨a1, -⟩
              · exact a10
              · omega
            have := wat_r (lv := fun h => rawF V (h : Nat) (h : Nat)) (t := V 145 i) lg 0 100
            unfold wfF
            omega
          · rw [b8 102 51 (by decide) (by decide) (by decide) (Or.inr (by decide)) rfl, b8 102 52 (by decide) (by decide) (by decide) (Or.inr (by decide)) rfl]
            exact wt.2
        refine c_leadOut (f := 35) lc ?_
        intro M5 r S fl5 sv5 rr5 ld5 mx5 ic5
        obtain ⟨n1, n2, -⟩ := net_c (M := V) (M' := M8) (sc := scF V w) (sc' := scF V w) (wf := wfF V) (wf' := wfF V) (w := w) (bw_nt b8) (rd_in hV) (fun _ _ _ => rfl) (fun _ _ _ => rfl) (fun _ _ _ => rfl)
        rw [n1] at mx5
        rw [eP M8 hS8, Int.toNat_natCast, n2 P (by omega)] at sv5
        have er : mxr (ntF V w) = r := mxr_e mx5
        have hS5 : cI M0 p V s M5 := by
          refine ⟨fun x hx hk => ?_, fun x hx => ?_, ?_⟩
          · obtain ⟨k1, k2, k3⟩ := id hk
            rw [fl5.1 x (by omega) (by omega) (by omega) (by omega) (by omega) (by omega) (by omega) (by omega) (by omega) (by omega) (by omega) (by omega)]
            exact hS8.1 x hx hk
          · rw [fl5.1 x (by omega) (by omega) (by omega) (by omega) (by omega) (by omega) (by omega) (by omega) (by omega) (by omega) (by omega) (by omega)]
            exact hS8.2.1 x hx
          · unfold plS
            rw [fl5.1 p (by omega) (by omega) (by omega) (by omega) (by omega) (by omega) (by omega) (by omega) (by omega) (by omega) (by omega) (by omega)]
            exact hS8.2.2
        refine nx M5 hS5 ?_ ?_
        · rw [sv5]
          unfold svF
          rw [hP, Int.toNat_natCast, er]
        · rw [fl5.2.2 _ (by decide) (by decide)]
          exact eb8
set_option maxHeartbeats 8000000 in
theorem c_tryMore {E : zE} {M0 M' : zM} {Q : Int → zM → Prop} {k p W : Nat} {m : Int} (hk : k ≤ 600) (hM0 : RelA k M0) (hn : M0 0 7 = 1) (hwr : rWrn M0) (hfc : ∀ w : Nat, (w : Int) < M0 102 58 → fcOk M0 M0 (fid w) w ∧ ldOk M0 (fid w) w) (hcd : rCnd M0) (hm : 0 ≤ m ∧ m ≤ 2) (hp : zIs_4 (p : Int)) (hS : cI M0 p M0 (bst0 M0) M')
    (h : ∀ M9 : zM, cI M0 p M0 (bst M0 m) M9 → Q 0 (zup M9 p 0 1)) : zP E mX11_tryMoreWorks [.inr (.inr 0), .inr (.inr (p : Int)), .inl m] M' Q := by
  have hO := refOk_A hM0
  obtain ⟨-, -, -, -, -, -, -, ⟨k1, k2, k3, k4, k5, k6⟩, ⟨wc, wr, wwf, wb⟩, -⟩ := id hM0
  obtain ⟨N, hN, hN6⟩ : ∃ N : Nat, 2 * M0 102 96 = ((2 * N : Nat) : Int) ∧ N ≤ 6 := ⟨(M0 102 96).toNat, by omega, by omega⟩
  have zm : zR m := by unfold zR; omega
  obtain ⟨W, hW⟩ : ∃ W : Nat, M0 102 58 = (W : Int) := ⟨(M0 102 58).toNat, by omega⟩
  have bA : bstA M0 m = if 1 ≤ m then bst1 M0 (2 * N) (bst0 M0) else bst0 M0 := by unfold bstA; rw [hN, Int.toNat_natCast]
  have bB : bst M0 m = if 2 ≤ m then bst2 M0 (2 * N) (2 * N) (bstA M0 m) else bstA M0 m := by unfold bst; rw [hN, Int.toNat_natCast]
  have okA : sOk (bstA M0 m) := bstA_ok hO k4 m
  have lo1 : ∀ a x, x < 102 → x ≠ 28 → x ≠ 31 → pb M0 a x = M0 x := fun a x hx a1 a2 => pb_a (by omega) (by omega) a2 (by omega) a1
  have lo2 : ∀ a b x, x < 102 → x ≠ 28 → x ≠ 31 → pb (pb M0 a) b x = M0 x := fun a b x hx a1 a2 => by
    rw [pb_a (by omega) (by omega) a2 (by omega) a1]
    exact lo1 a x hx a1 a2
  have ecc : M' 28 7 = M0 102 96 := by
    rw [(cI_land hp hS).1, k3]
  refine vcX11_tryMoreWorks _ _ hp (fun n l2 l3 l4 M2 => ∃ a : Nat, m = l2 ∧ l3 = ((2 * N : Nat) : Int) ∧ l4 = (a : Int) ∧ a ≤ 2 * N ∧ n = 1000 - a ∧ (m ≤ 0 → a = 0) ∧ cI M0 p M0 (bst1 M0 a (bst0 M0)) M2)
    (fun n l2 l3 l4 M2 => ∃ a : Nat, m = l2 ∧ l3 = ((2 * N : Nat) : Int) ∧ l4 = (a : Int) ∧ a ≤ 2 * N ∧ n = 900 - 40 * a ∧ (m ≤ 1 → a = 0) ∧ cI M0 p M0 (bst2 M0 (2 * N) a (bstA M0 m)) M2)
    (fun n l2 l3 l4 l6 M2 => ∃ a k : Nat, m = l2 ∧ l3 = ((2 * N : Nat) : Int) ∧ l4 = (a : Int) ∧ l6 = ((2 * (a / 2) + 2 + k : Nat) : Int) ∧ a < 2 * N ∧ 2 * (a / 2) + 2 + k ≤ 2 * N ∧ n = 899 - 40 * a - k ∧ 2 ≤ m ∧ mayP M0 a ∧ cI M0 p (pb M0 a) (bst2i M0 a k (bst2 M0 (2 * N) a (bstA M0 m))) M2) ?_ ?_ ?_ ?_
  · rw [ecc, hN]
    exact ⟨1000 - 0, 0, rfl, rfl, rfl, by omega, rfl, fun _ => rfl, hS⟩
  · rintro n l2 l3 l4 M2 ⟨a, rfl, rfl, rfl, ha, rfl, hma, hS2⟩
    have ex : (2 * N ≤ a ∨ m ≤ 0) → ∃ n', n' < 1000 - a ∧ ∃ a' : Nat, m = m ∧ ((2 * N : Nat) : Int) = ((2 * N : Nat) : Int) ∧ (0 : Int) = (a' : Int) ∧ a' ≤ 2 * N ∧ n' = 900 - 40 * a' ∧ (m ≤ 1 → a' = 0) ∧ cI M0 p M0 (bst2 M0 (2 * N) a' (bstA M0 m)) M2 := fun q => by
      refine ⟨900 - 40 * 0, by omega, 0, rfl, rfl, rfl, by omega, rfl, fun _ => rfl, ?_⟩
      show cI M0 p M0 (bstA M0 m) M2
      rw [bA]
      by_cases q1 : 1 ≤ m
      · rw [if_pos q1]
        have : a = 2 * N := by omega
        rw [← this]
        exact hS2
      · rw [if_neg q1]
        have : a = 0 := hma (by omega)
        rw [this] at hS2
        exact hS2
    refine ⟨⟨by unfold zR; omega, by unfold zR; omega⟩, fun q => ex (Or.inl (by omega)), fun q => ⟨zm, fun q2 => ex (Or.inr (by omega)), fun q2 => ?_⟩⟩
    have un : bst1 M0 (a + 1) (bst0 M0) = if mayP M0 a then offS (bst1 M0 a (bst0 M0)) (a : Nat) (-1) (clF (pb M0 a) W) (cbF (pb M0 a) W) else bst1 M0 a (bst0 M0) := by
      have : (M0 102 58).toNat = W := by omega
      rw [← this]
      rfl
    have ok1 : sOk (bst1 M0 a (bst0 M0)) := bst1_ok hO a (by omega) (bst0_ok hO)
    refine c_put hM0 hk hcd (by omega) hp hS2 (fun q3 M3 h3 => ?_) (fun q3 => ?_)
    · rw [if_pos q3] at un
      refine ⟨zRd rfl, fun q => absurd q (by decide), fun _ => ?_⟩
      refine c_weigh hM0 hn hwr hfc (rel_pb hM0 q3) (bw_pb M0 a) (lo1 a) hW hp ok1 h3 ?_
      intro M4 h4
      refine c_take hM0 hcd (by omega) hp q3 h4 ?_
      intro M5 h5
      rw [← un] at h5
      exact ⟨1000 - (a + 1), by omega, a + 1, rfl, rfl, by omega, by omega, rfl, fun q => by omega, h5⟩
    · rw [if_neg q3] at un
      rw [← un] at hS2
      exact ⟨zRd rfl, fun _ => ⟨1000 - (a + 1), by omega, a + 1, rfl, rfl, by omega, by omega, rfl, fun q => by omega, hS2⟩, fun q => absurd rfl q⟩
  · rintro n l2 l3 l4 M2 ⟨a, rfl, rfl, rfl, ha, rfl, hma, hS2⟩
    have ok2 : sOk (bst2 M0 (2 * N) a (bstA M0 m)) := bst2_ok hO (by omega) a (by omega) okA
    have ex : (2 * N ≤ a ∨ m ≤ 1) → ∀ M7, M7 = zup M2 (p : Int).toNat 0 1 → Q 0 M7 := fun q M7 h7 => by
      rw [h7, Int.toNat_natCast]
      refine h M2 ?_
      rw [bB]
      by_cases q1 : 2 ≤ m
      · rw [if_pos q1]
        have : a = 2 * N := by omega
        rw [this] at hS2
        exact hS2
      · rw [if_neg q1]
        have : a = 0 := hma (by omega)
        rw [this] at hS2
        exact hS2
    refine ⟨⟨by unfold zR; omega, by unfold zR; omega⟩, fun q => ex (Or.inl (by omega)), fun q => ⟨zm, fun q2 => ex (Or.inr (by omega)), fun q2 => ?_⟩⟩
    have un : bst2 M0 (2 * N) (a + 1) (bstA M0 m) = if mayP M0 a then bst2i M0 a (2 * N - (2 * (a / 2) + 2)) (bst2 M0 (2 * N) a (bstA M0 m)) else bst2 M0 (2 * N) a (bstA M0 m) := rfl
    refine c_put hM0 hk hcd (by omega) hp hS2 (fun q3 M3 h3 => ?_) (fun q3 => ?_)
    · rw [(num2 a).2]
      exact ⟨zRd rfl, fun q => absurd q (by decide), fun _ => ⟨by unfold zR; omega, 899 - 40 * a - 0, by omega, a, 0, rfl, rfl, rfl, by omega, by omega, by omega, rfl, q2, q3, h3⟩⟩
    · rw [if_neg q3] at un
      rw [← un] at hS2
      exact ⟨zRd rfl, fun _ => ⟨900 - 40 * (a + 1), by omega, a + 1, rfl, rfl, by omega, by omega, rfl, fun q => by omega, hS2⟩, fun q => absurd rfl q⟩
  · rintro n l2 l3 l4 l6 M2 ⟨a, j, rfl, rfl, rfl, rfl, ha, hj, rfl, hm2, hmy, hS2⟩
    have pcd : pb M0 a 102 96 = M0 102 96 := pb_n (by decide) (by decide) (by decide) (Or.inr (by decide)) (Or.inl (by decide))
    have ok2 : sOk (bst2i M0 a j (bst2 M0 (2 * N) a (bstA M0 m))) := bst2i_ok hO (by omega) j (by omega) (bst2_ok hO (by omega) a (by omega) okA)
    have hVa := rel_pb hM0 hmy
    refine ⟨⟨by unfold zR; omega, by unfold zR; omega⟩, fun q => ?_, fun q => ?_⟩
    · refine c_take hM0 hcd (by omega) hp hmy hS2 ?_
      intro M5 h5
      have un : bst2 M0 (2 * N) (a + 1) (bstA M0 m) = if mayP M0 a then bst2i M0 a (2 * N - (2 * (a / 2) + 2)) (bst2 M0 (2 * N) a (bstA M0 m)) else bst2 M0 (2 * N) a (bstA M0 m) := rfl
      rw [if_pos hmy, show 2 * N - (2 * (a / 2) + 2) = j by omega] at un
      rw [← un] at h5
      exact ⟨900 - 40 * (a + 1), by omega, a + 1, rfl, rfl, by omega, by omega, rfl, fun q => by omega, h5⟩
    · have un : bst2i M0 a (j + 1) (bst2 M0 (2 * N) a (bstA M0 m)) = if mayP (pb M0 a) (2 * (a / 2) + 2 + j) then offS (bst2i M0 a j (bst2 M0 (2 * N) a (bstA M0 m))) (a : Nat) ((2 * (a / 2) + 2 + j : Nat) : Int) (clF (pb (pb M0 a) (2 * (a / 2) + 2 + j)) W) (cbF (pb (pb M0 a) (2 * (a / 2) + 2 + j)) W) else bst2i M0 a j (bst2 M0 (2 * N) a (bstA M0 m)) := by
        have : (M0 102 58).toNat = W := by omega
        rw [← this]
        rfl
      refine c_put hVa hk (cnd_pb hcd) (by rw [pcd]; omega) hp hS2 (fun q3 M3 h3 => ?_) (fun q3 => ?_)
      · rw [if_pos q3] at un
        refine ⟨zRd rfl, fun q => absurd q (by decide), fun _ => ?_⟩
        refine c_weigh hM0 hn hwr hfc (rel_pb hVa q3) (bw_t (bw_pb M0 a) (bw_pb (pb M0 a) (2 * (a / 2) + 2 + j))) (lo2 a (2 * (a / 2) + 2 + j)) hW hp ok2 h3 ?_
        intro M4 h4
        refine c_take hVa (cnd_pb hcd) (by rw [pcd]; omega) hp q3 h4 ?_
        intro M5 h5
        rw [← un] at h5
        exact ⟨899 - 40 * a - (j + 1), by omega, a, j + 1, rfl, rfl, rfl, by omega, ha, by omega, rfl, hm2, hmy, h5⟩
      · rw [if_neg q3] at un
        rw [← un] at hS2
        exact ⟨zRd rfl, fun _ => ⟨899 - 40 * a - (j + 1), by omega, a, j + 1, rfl, rfl, rfl, by omega, ha, by omega, rfl, hm2, hmy, hS2⟩, fun q => absurd rfl q⟩
