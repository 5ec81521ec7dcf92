/-! leads and costs of the reference by its own good state -/
set_option maxHeartbeats 8000000 in
theorem r_leadsO {E : zE} {M : zM} {Q : Int → zM → Prop} {w : Nat} {wf : Nat → Int} (hO : refOk M) (hw : (w : Int) < M 102 58) (hlv : ∀ h, h < 100 → zR (M 154 h)) (hwf : ∀ p : Nat, (p : Int) < M 102 69 → M 142 p = 1 → wf p = wat (M 154) (M 145 p) (M 146 p) 0 100)
    (h : ∀ (M' : zM) (r : Int), (∀ x j, dLd x j = false → M' x j = M x j) → M' 102 92 = bgn M w → M' 102 93 = fns M w → M' 102 95 = styF M (scF M w) wf w (M 102 69).toNat + r → (0 ≤ r ∧ r ≤ 8000) → (∀ j : Nat, (j : Int) < M 102 51 * M 102 52 → M' 139 j = scF M w j) → mxf 402 400 401 (netL M (scF M w) wf w).length (aFr (netL M (scF M w) wf w)) (aTo (netL M (scF M w) wf w)) (aCp (netL M (scF M w) wf w)) r (fun v => decide (M' 160 v ≠ -1)) → (∀ v, v < 402 → zR (M' 160 v)) → Q 0 M') : zP E mX12_leads [.inr (.inr 102), .inl (w : Int)] M Q := by
  have nt := nt_O hO hw
  have cs := cut_src (wf := wf) nt
  obtain ⟨no, nl⟩ := netL_ok (wf := wf) nt
  obtain ⟨-, -, -, -, ⟨wr, wb⟩, ⟨p2, p3⟩, ⟨r2, r3⟩⟩ := id hO
  obtain ⟨w1, w2⟩ := wt_O hO
  have ap8 : ap M (M 102 69).toNat ≤ 8000 := by
    have key : ∀ p : Nat, (p : Int) ≤ M 102 69 → ap M p ≤ 1000 * p := by
      intro p hp
      induction p with
      | zero => exact Int.le_refl _
      | succ p ih =>
        have ih := ih (by omega)
        show ap M p + (if M 142 p = 0 then 0 else M 144 p) ≤ _
        have c := nt.2.2.2.1 p (by omega)
        split <;> omega
    have := key (M 102 69).toNat (by omega)
    omega
  obtain ⟨N, hN⟩ : ∃ N, N = netL M (scF M w) wf w := ⟨_, rfl⟩
  rw [← hN] at cs no nl h
  have nodes : ∀ a, a < N.length → 0 ≤ aCp N a ∧ aFr N a < 402 ∧ aTo N a < 402 := fun a ha => by
    obtain ⟨c1, c2, c3⟩ := no _ (a_get N ha).2
    simp only at c1 c2 c3
    omega
  have bd : ∀ (x : Nat → Int) (r : Int), Flow 402 400 401 N.length (aFr N) (aTo N) (aCp N) x r → r ≤ 8000 := fun x r hF => by
    have := (flow_le hF (by decide) (S := fun v => v == 400) rfl rfl).1
    omega
  refine vcX12_leads _ (fun m M' => ∃ (x : Nat → Int) (val : Int), m = (8001 - val).toNat ∧ 0 ≤ val ∧ (∀ y j, dLd y j = false → M' y j = M y j) ∧ M' 102 92 = bgn M w ∧ M' 102 93 = fns M w ∧ M' 102 95 = styF M (scF M w) wf w (M 102 69).toNat + val ∧ (∀ j : Nat, (j : Int) < M 102 51 * M 102 52 → M' 139 j = scF M w j) ∧ rNet M' N.length (aFr N) (aTo N) (aCp N) x ∧ Flow 402 400 401 N.length (aFr N) (aTo N) (aCp N) x val) ?_ ?_
  · refine r_flowsO hO hw ?_
    intro M2 f2 l2 s2
    have cellLt : ∀ c : Int, 0 ≤ c ∧ c < M 102 51 * M 102 52 → M2 139 c.toNat = scF M w c.toNat ∧ (1 ≤ scF M w c.toNat ∧ scF M w c.toNat ≤ 13) := fun c hc => ⟨s2 c.toNat (by omega), (lvR_O (s := 12) hO hw (by omega) c.toNat (by omega)).2.2⟩
    have g : ∀ y, y ≠ 137 → y ≠ 138 → y ≠ 139 → y ≠ 140 → y ≠ 141 → M2 y = M y := f2
    have et : M2 102 = M 102 := g _ (by decide) (by decide) (by decide) (by decide) (by decide)
    have e2 : M2 142 = M 142 := g _ (by decide) (by decide) (by decide) (by decide) (by decide)
    have e3 : M2 143 = M 143 := g _ (by decide) (by decide) (by decide) (by decide) (by decide)
    have e4 : M2 144 = M 144 := g _ (by decide) (by decide) (by decide) (by decide) (by decide)
    have e5 : M2 147 = M 147 := g _ (by decide) (by decide) (by decide) (by decide) (by decide)
    have e6 : M2 148 = M 148 := g _ (by decide) (by decide) (by decide) (by decide) (by decide)
    have e7 : M2 149 = M 149 := g _ (by decide) (by decide) (by decide) (by decide) (by decide)
    have e8 : M2 150 = M 150 := g _ (by decide) (by decide) (by decide) (by decide) (by decide)
    have e9 : M2 151 = M 151 := g _ (by decide) (by decide) (by decide) (by decide) (by decide)
    have e10 : M2 152 = M 152 := g _ (by decide) (by decide) (by decide) (by decide) (by decide)
    have e11 : M2 153 = M 153 := g _ (by decide) (by decide) (by decide) (by decide) (by decide)
    have e12 : M2 145 = M 145 := g _ (by decide) (by decide) (by decide) (by decide) (by decide)
    have e13 : M2 146 = M 146 := g _ (by decide) (by decide) (by decide) (by decide) (by decide)
    have e14 : M2 132 = M 132 := g _ (by decide) (by decide) (by decide) (by decide) (by decide)
    have e15 : M2 154 = M 154 := g _ (by decide) (by decide) (by decide) (by decide) (by decide)
    have hp2 : plOk M2 := by
      unfold plOk
      rw [et, e2, e3, e4, e5, e12, e13]
      refine ⟨p2, fun p hp => ?_⟩
      rcases p3 p hp with ⟨a1, a7, a8, a9, a10⟩ | ⟨a1, a5⟩
      · obtain ⟨c1, c2⟩ := cellLt _ a7
        exact Or.inr ⟨a1, by omega, by rw [c1]; exact c2, a8, a9, a10⟩
      · exact Or.inl ⟨a1, a5⟩
    have hr2 : rdsOk M2 := by
      unfold rdsOk
      rw [et, e6, e7, e8, e9, e10, e11]
      refine ⟨r2, fun r hr => ?_⟩
      obtain ⟨b1, b2, b4, b5, b6, b7⟩ := r3 r hr
      refine ⟨b1, b2, b4, b5, b6, ?_⟩
      rcases b7 with b7 | b7
      · exact Or.inl b7
      · obtain ⟨c1, c2⟩ := cellLt _ b7
        exact Or.inr ⟨by omega, by rw [c1]; exact c2⟩
    obtain ⟨n1, n2, n3, n4⟩ := net_c (M := M) (M' := M2) (sc := scF M w) (sc' := M2 139) (wf := wf) (wf' := wf) (w := w) ⟨by rw [et], by rw [et], fun y hy => g y (by omega) (by omega) (by omega) (by omega) (by omega)⟩ (fun r hr => by
        obtain ⟨b1, b2, -⟩ := r3 r hr
        exact ⟨b1, b2⟩) (fun p hp q => by
        rcases p3 p hp with ⟨a1, a7, -⟩ | ⟨a1, -⟩
        · exact (cellLt _ a7).1
        · exact absurd a1 q) (fun r hr q => by
        obtain ⟨b1, b2, b4, b5, b6, b7⟩ := r3 r hr
        rcases b7 with b7 | b7
        · exact absurd b7 q
        · exact (cellLt _ b7).1) (fun _ _ _ => rfl)
    refine r_lays (wf := wf) (by omega) hp2 hr2 (by rw [e14]; exact (wb w hw).1) (fun j hj => by rw [e15]; exact hlv j hj) (fun p hp q => by rw [e15, e12, e13]; rw [et] at hp; rw [e2] at q; exact hwf p hp q) ?_
    intro M4 f4 b4 c4 s4 a4
    intro M5 h5
    rw [et, n2 _ (by omega)] at s4
    rw [n1, ← hN] at a4
    have f45 : ∀ x j, dLd x j = false → M5 x j = M x j := fr_t (fr_t (lvFr_Ld f2) (fr_sub dA_Ld f4)) (by rw [h5]; exact fr_up rfl)
    have a5 : aR M5 N := by
      refine aR_c (fun x hx => ?_) ?_ a4
      · rw [h5]
        rcases hx with hx | hx | hx | hx <;> subst hx <;> exact zup_ne _ _ _ (by decide)
      · rw [h5, zup_a, up1_n _ _ (by decide)]
    refine ⟨_, fun _ => 0, 0, rfl, Int.le_refl _, f45, by rw [h5, zup_a, up1_n _ _ (by decide), b4, n3], by rw [h5, zup_a, up1_n _ _ (by decide), c4, n4], by rw [h5, zup_a, up1_s, s4]; omega, fun j hj => by rw [h5, zup_ne _ _ _ (by decide), f4 139 j rfl]; exact s2 j hj, aR_net a5 (by omega) no, flow_0 nodes⟩
  · rintro m M' ⟨x, val, rfl, v0, fr', eb, ef, es, esc, hNt, hF⟩
    have vb := bd x val hF
    have hb : ∀ a, a < N.length → 0 ≤ x a ∧ x a ≤ aCp N a := fun a ha => (hF.1 a ha).1
    refine r_spreads hNt ?_
    intro M7 ρ kk f7 sp c7 cl
    have f7' : ∀ y j, dLd y j = false → M7 y j = M' y j := fr_ar (A := [160, 161]) (fun y hy => f7 y (fun q => hy (by rw [q]; simp)) (fun q => hy (by rw [q]; simp))) (fun y j hy => by
      simp only [List.mem_cons, List.not_mem_nil, or_false] at hy
      rcases hy with hy | hy <;> rw [hy] <;> rfl)
    have et7 : M7 102 = M' 102 := f7 _ (by decide) (by decide)
    have cz : ∀ v, v < 402 → zR (M7 160 v) := fun v hv => by have := RC_r sp c7 hNt.2.1 v hv; unfold zR; omega
    have n7 : rNet M7 N.length (aFr N) (aTo N) (aCp N) x := by
      unfold rNet
      rw [et7, f7 156 (by decide) (by decide), f7 157 (by decide) (by decide), f7 158 (by decide) (by decide), f7 159 (by decide) (by decide)]
      exact hNt
    refine ⟨by split <;> exact zRd rfl, fun q => ?_, fun q => ?_⟩
    · have q : M7 160 401 = -1 := by
        by_cases q2 : M7 160 401 = -1
        · exact q2
        · rw [if_neg q2] at q; cases q
      refine h M7 val (fr_t fr' f7') (by rw [et7]; exact eb) (by rw [et7]; exact ef) (by rw [et7]; exact es) ⟨v0, vb⟩ (fun j hj => by rw [f7 139 (by decide) (by decide)]; exact esc j hj) ⟨x, hF, decide_eq_true (by rw [c7]; decide), decide_eq_false (fun q2 => q2 q), (shut_clsd hb).mpr cl, ?_⟩ cz
      intro T T0 hT v hv hS
      exact SPg_least sp T T0 ((shut_clsd hb).mp hT) v hv (of_decide_eq_true hS)
    · have q : M7 160 401 ≠ -1 := fun q2 => q (by rw [if_pos q2])
      refine r_pushes n7 sp c7 q hF ?_
      intro M9 d x' d0 f9 n9 w9
      intro M10 h10
      have vb2 := bd x' _ w9
      have et9 : M9 102 = M7 102 := f9 _ (by decide) (by decide)
      have f9' : ∀ y j, dLd y j = false → M9 y j = M7 y j := fr_ar (A := [158, 159]) (fun y hy => f9 y (fun q => hy (by rw [q]; simp)) (fun q => hy (by rw [q]; simp))) (fun y j hy => by
        simp only [List.mem_cons, List.not_mem_nil, or_false] at hy
        rcases hy with hy | hy <;> rw [hy] <;> rfl)
      have f10 : ∀ y j, dLd y j = false → M10 y j = M9 y j := by rw [h10]; exact fr_up rfl
      refine ⟨(8001 - (val + d)).toNat, by omega, x', val + d, rfl, by omega, fr_t (fr_t (fr_t fr' f7') f9') f10, by rw [h10, zup_a, up1_n _ _ (by decide), et9, et7]; exact eb, by rw [h10, zup_a, up1_n _ _ (by decide), et9, et7]; exact ef, by rw [h10, zup_a, up1_s, et7, es]; omega, fun j hj => by rw [h10, zup_ne _ _ _ (by decide), f9 139 (by decide) (by decide), f7 139 (by decide) (by decide)]; exact esc j hj, ?_, w9⟩
      unfold rNet
      rw [h10, zup_a, up1_n _ _ (by decide), zup_ne _ _ _ (show 156 ≠ 102 by decide), zup_ne _ _ _ (show 157 ≠ 102 by decide), zup_ne _ _ _ (show 158 ≠ 102 by decide), zup_ne _ _ _ (show 159 ≠ 102 by decide)]
      exact n9

