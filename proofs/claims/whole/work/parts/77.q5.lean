/-! the lava that the class keeps -/
def fid (w : Nat) : Nat := if w = 0 then 70 else if w = 1 then 80 else 90
def rStp (M : zM) : Prop := ∀ w : Nat, (w : Int) < M 102 58 → (M (fid w) 4 = 0 ∨ M (fid w) 4 = 1) ∧ (M (fid w) 4 = 1 → fcOk M M (fid w) w)
/-- what a stepping of lava may change -/
def dStp (x j : Nat) : Bool := [71, 72, 73, 74, 75, 76, 81, 82, 83, 84, 85, 86, 91, 92, 93, 94, 95, 96, 137, 138, 139, 140, 141].contains x || ([70, 80, 90].contains x && [3, 4].contains j) || (x == 102 && [2].contains j)
theorem dStp_all (x j : Nat) (h : dAll x j = true) : dStp x j = false := by
  cases hd : dStp x j with
  | false => rfl
  | true =>
    exfalso
    simp only [dStp, Bool.or_eq_true, Bool.and_eq_true, beq_iff_eq, List.contains_cons, List.contains_nil, Bool.or_false] at hd
    have k : ∀ y i, y = x → i = j → dAll y i = false → False := by
      intro y i h1 h2 h3
      subst h1
      subst h2
      rw [h] at h3
      cases h3
    rcases hd with ((hd|hd|hd|hd|hd|hd|hd|hd|hd|hd|hd|hd|hd|hd|hd|hd|hd|hd|hd|hd|hd|hd|hd) | ⟨(hd|hd|hd), (h2|h2)⟩) | ⟨hd, h2⟩
    all_goals first | exact k _ j hd.symm rfl rfl | exact k _ _ hd.symm h2.symm rfl
theorem st_rel {k : Nat} {M M' : zM} (fr : ∀ x j, dStp x j = false → M' x j = M x j) (h : RelA k M) : RelA k M' := by
  refine rel_c (fun x j hx => fr x j (dStp_all x j hx)) ?_ h
  obtain ⟨-, -, -, -, -, -, -, -, -, -, -, -, -, hk⟩ := h
  unfold rKpt at hk ⊢
  rw [fr 0 6 rfl, fr 0 7 rfl]
  exact hk
theorem lvR_st {M M' : zM} (fr : ∀ x j, dStp x j = false → M' x j = M x j) (w s : Nat) : lvR M' w s = lvR M w s := by
  have e : gr0 M' = gr0 M := funext fun c => by
    unfold gr0
    rw [fr 128 c rfl, fr 130 c rfl, fr 131 c rfl]
  unfold lvR
  rw [e, fr 102 51 rfl, fr 102 52 rfl, fr 133 w rfl, fr 134 w rfl, fr 135 w rfl]
theorem bu_st {M M' : zM} (fr : ∀ x j, dStp x j = false → M' x j = M x j) : buF M' = buF M := by
  funext a c
  unfold buF
  rw [fr 129 c rfl]
theorem fc_st {M M' : zM} {f w : Nat} (fr : ∀ x j, dStp x j = false → M' x j = M x j) (e1 : M' (f + 1) = M (f + 1)) (e2 : M' (f + 2) = M (f + 2)) (e3 : M' (f + 3) = M (f + 3)) (e4 : M' f 3 = M f 3) (h : fcOk M M f w) : fcOk M' M' f w := by
  unfold fcOk at h ⊢
  simp only [lvR_st fr, bu_st fr, fr 102 51 rfl, fr 102 52 rfl, e1, e2, e3, e4]
  exact h
theorem fc_st2 {M M' : zM} {f w : Nat} (fr : ∀ x j, dStp x j = false → M' x j = M x j) (h : fcOk M' M f w) : fcOk M' M' f w := by
  unfold fcOk at h ⊢
  simp only [lvR_st fr, bu_st fr, fr 102 51 rfl, fr 102 52 rfl]
  exact h
theorem fid3 {w : Nat} (hw : w < 3) : (w = 0 ∧ fid w = 70) ∨ (w = 1 ∧ fid w = 80) ∨ (w = 2 ∧ fid w = 90) := by
  have : w = 0 ∨ w = 1 ∨ w = 2 := by omega
  rcases this with rfl | rfl | rfl <;> simp [fid]
theorem dStp_fid {w : Nat} (hw : w < 3) (x j : Nat) (h : dStp x j = false) : x ≠ fid w + 1 ∧ x ≠ fid w + 2 ∧ x ≠ fid w + 3 ∧ x ≠ fid w + 4 ∧ x ≠ fid w + 5 ∧ x ≠ fid w + 6 ∧ (x = fid w → j ≠ 3 ∧ j ≠ 4) := by
  have k : ∀ y i, x = y → j = i → dStp y i = true → False := by
    intro y i h1 h2 h3
    subst h1
    subst h2
    rw [h] at h3
    cases h3
  rcases fid3 hw with ⟨-, e⟩ | ⟨-, e⟩ | ⟨-, e⟩ <;> rw [e] <;> exact ⟨fun q => k _ j q rfl rfl, fun q => k _ j q rfl rfl, fun q => k _ j q rfl rfl, fun q => k _ j q rfl rfl, fun q => k _ j q rfl rfl, fun q => k _ j q rfl rfl, fun q => ⟨fun q2 => k _ _ q q2 rfl, fun q2 => k _ _ q q2 rfl⟩⟩
theorem c_stepped {E : zE} {M : zM} {Q : Int → zM → Prop} {k w : Nat} (hA : RelA k M) (hs : rStp M) (hw : (w : Int) < M 102 58)
    (h : ∀ M' : zM, (∀ x j, dStp x j = false → M' x j = M x j) → rStp M' → M' (fid w) 4 = 1 → fcOk M' M' (fid w) w → Q (fid w : Int) M') : zP E mX11_steppedForecast [.inr (.inr 0), .inl (w : Int)] M Q := by
  have hw3 : w < 3 := by
    obtain ⟨-, -, -, -, -, -, -, -, ⟨-, wr, -⟩, -⟩ := hA
    omega
  have hF : M 34 w = (fid w : Int) ∧ M 33 w = (wid w : Int) ∧ zIs_0 (fid w : Int) := by
    obtain ⟨⟨a0, a1, a2⟩, ⟨b0, b1, b2⟩, -⟩ := hA.1
    have : w = 0 ∨ w = 1 ∨ w = 2 := by omega
    rcases this with rfl | rfl | rfl
    · exact ⟨b0, a0, by unfold zIs_0 fid; simp⟩
    · exact ⟨b1, a1, by unfold zIs_0 fid; simp⟩
    · exact ⟨b2, a2, by unfold zIs_0 fid; simp⟩
  obtain ⟨hF1, hF2, hF3⟩ := hF
  refine vcX11_steppedForecast _ ?_
  have ce : (w : Int).toNat = w := Int.toNat_natCast w
  have fe : (fid w : Int).toNat = fid w := Int.toNat_natCast _
  rw [ce, hF1, hF2, fe]
  obtain ⟨s1, s2⟩ := hs w hw
  refine ⟨by omega, hF3, by rcases s1 with q | q <;> rw [q] <;> exact zRd rfl, fun q => ?_, fun q => ⟨by omega, ?_⟩⟩
  · have q1 : M (fid w) 4 = 1 := s1.resolve_left q
    exact h M (fun _ _ _ => rfl) hs q1 (s2 q1)
  · refine c_stepLava hA hF3 hw ?_
    intro M' g1 g2 g3 g4
    have fr : ∀ x j, dStp x j = false → M' x j = M x j := fun x j hd => by
      obtain ⟨x1, x2, x3, x4, x5, x6, x0⟩ := dStp_fid hw3 x j hd
      by_cases hx : x = fid w
      · obtain ⟨j1, j2⟩ := x0 hx
        subst hx
        exact g2 j j1 j2
      · rw [g1 x hx x1 x2 x3 x4 x5 x6]
    refine h M' fr ?_ g3 (fc_st2 fr g4)
    intro w' hw'
    rw [fr 102 58 rfl] at hw'
    by_cases hww : w' = w
    · subst hww
      exact ⟨Or.inr g3, fun _ => fc_st2 fr g4⟩
    · have hw4 : w' < 3 := by
        obtain ⟨-, -, -, -, -, -, -, -, ⟨-, wr, -⟩, -⟩ := hA
        omega
      have ne : ∀ i, i ≤ 6 → ∀ i', i' ≤ 6 → fid w' + i ≠ fid w + i' := by
        intro i hi i' hi'
        rcases fid3 hw3 with ⟨a, e⟩ | ⟨a, e⟩ | ⟨a, e⟩ <;> rcases fid3 hw4 with ⟨b, e'⟩ | ⟨b, e'⟩ | ⟨b, e'⟩ <;> omega
      have same : ∀ i, i ≤ 6 → M' (fid w' + i) = M (fid w' + i) := fun i hi => g1 _ (ne i hi 0 (by omega)) (ne i hi 1 (by omega)) (ne i hi 2 (by omega)) (ne i hi 3 (by omega)) (ne i hi 4 (by omega)) (ne i hi 5 (by omega)) (ne i hi 6 (by omega))
      have s0 : M' (fid w') = M (fid w') := same 0 (by omega)
      obtain ⟨t1, t2⟩ := hs w' hw'
      rw [s0]
      exact ⟨t1, fun q5 => fc_st fr (same 1 (by omega)) (same 2 (by omega)) (same 3 (by omega)) (by rw [s0]) (t2 q5)⟩
/-- the reference's lava, from RelA -/
theorem r_flowsA {E : zE} {M : zM} {Q : Int → zM → Prop} {k w : Nat} (hA : RelA k M) (hw : (w : Int) < M 102 58)
    (h : ∀ M', lvFr M M' → (∀ t, t ≤ 12 → ∀ j : Nat, (j : Int) < M 102 51 * M 102 52 → M' 137 (64 * t + j) = (lvR M w t).1 j ∧ M' 138 (64 * t + j) = (lvR M w t).2.1 j) → (∀ j : Nat, (j : Int) < M 102 51 * M 102 52 → M' 139 j = (lvR M w 12).2.2 j) → Q 0 M') : zP E mX12_flows [.inr (.inr 102), .inl (w : Int)] M Q := by
  obtain ⟨-, -, -, -, -, -, hl, -, ⟨wc, wr, wf, wb⟩, -⟩ := hA
  obtain ⟨l1, l2, l3, l4, l5, l6, l7, l8, l9, l10⟩ := hl
  obtain ⟨b1, b2, b3, b4, b5⟩ := wb w hw
  obtain ⟨W, hW⟩ : ∃ W : Nat, M 102 51 = (W : Int) := ⟨(M 102 51).toNat, by omega⟩
  obtain ⟨T, hT⟩ : ∃ T : Nat, M 102 52 = (T : Int) := ⟨(M 102 52).toNat, by omega⟩
  have hWT : M 102 51 * M 102 52 = ((W * T : Nat) : Int) := by rw [hW, hT]; simp
  rw [hWT] at b2 h
  refine r_flows (by omega) hW hT (by omega) (by omega) b2 b3 b4 l9 l8 (fun M' g1 g2 g3 => h M' g1 (fun t ht j hj => g2 t ht j (by omega)) (fun j hj => g3 j (by omega)))
theorem lvFr_st {M M' : zM} (h : lvFr M M') : ∀ x j, dStp x j = false → M' x j = M x j := by
  intro x j hd
  have k : ∀ y, x = y → dStp y j = true → False := by
    intro y h1 h3
    subst h1
    rw [hd] at h3
    cases h3
  rw [h x (fun q => k _ q rfl) (fun q => k _ q rfl) (fun q => k _ q rfl) (fun q => k _ q rfl) (fun q => k _ q rfl)]
theorem st_trans {M1 M2 M3 : zM} (h1 : ∀ x j, dStp x j = false → M2 x j = M1 x j) (h2 : ∀ x j, dStp x j = false → M3 x j = M2 x j) : ∀ x j, dStp x j = false → M3 x j = M1 x j := fun x j hx => (h2 x j hx).trans (h1 x j hx)
theorem st_up {M : zM} {a i : Nat} {v : Int} (hd : dStp a i = true) : ∀ x j, dStp x j = false → zup M a i v x j = M x j := by
  intro x j hx
  rw [zup_r]
  by_cases h1 : x = a
  · subst h1
    by_cases h2 : j = i
    · subst h2
      rw [hx] at hd
      cases hd
    · rw [if_pos rfl, if_neg h2]
  · rw [if_neg h1]
/-- the reference's steps leave the class's lava -/
theorem rStp_R {M M' : zM} (fr : ∀ x j, dStp x j = false → M' x j = M x j) (hc : ∀ x, x < 102 → M' x = M x) (h : rStp M) (hw3 : M 102 58 ≤ 3) : rStp M' := by
  intro w hw
  rw [fr 102 58 rfl] at hw
  have lt : fid w + 3 < 102 := by rcases fid3 (show w < 3 by omega) with ⟨-, e⟩ | ⟨-, e⟩ | ⟨-, e⟩ <;> rw [e] <;> decide
  obtain ⟨t1, t2⟩ := h w hw
  rw [hc (fid w) (by omega)]
  exact ⟨t1, fun q => fc_st fr (hc _ (by omega)) (hc _ (by omega)) (hc _ (by omega)) (by rw [hc (fid w) (by omega)]) (t2 q)⟩
theorem lvR_ok {k : Nat} {M : zM} {w s : Nat} (hA : RelA k M) (hw : (w : Int) < M 102 58) (hs : s ≤ 12) (c : Nat) (hc : (c : Int) < M 102 51 * M 102 52) : zR ((lvR M w s).1 c) ∧ zR ((lvR M w s).2.1 c) ∧ (1 ≤ (lvR M w s).2.2 c ∧ (lvR M w s).2.2 c ≤ 13) := by
  obtain ⟨-, -, -, -, -, -, hl, -, ⟨wc, wr, wf, wb⟩, -⟩ := hA
  obtain ⟨l1, l2, l3, l4, l5, l6, l7, l8, l9, l10⟩ := hl
  obtain ⟨b1, b2, b3, b4, b5⟩ := wb w hw
  obtain ⟨W, hW⟩ : ∃ W : Nat, M 102 51 = (W : Int) := ⟨(M 102 51).toNat, by omega⟩
  obtain ⟨T, hT⟩ : ∃ T : Nat, M 102 52 = (T : Int) := ⟨(M 102 52).toNat, by omega⟩
  have hWT : M 102 51 * M 102 52 = ((W * T : Nat) : Int) := by rw [hW, hT]; simp
  obtain ⟨v, hv⟩ : ∃ v : Nat, M 133 w = (v : Int) := ⟨(M 133 w).toNat, by omega⟩
  rw [hWT] at b2 hc
  rw [hv] at b2
  have g0r : ∀ c, -8 ≤ gr0 M c ∧ gr0 M c ≤ 1007 := fun c => by
    have := l9 c
    unfold gr0
    split <;> split <;> omega
  have ok : lvOk v (W * T) s (lvR M w s) := by
    unfold lvR
    rw [hW, hT, hv]
    simp only [Int.toNat_natCast]
    exact lv_ok (by omega) (by omega) b3 b4.1 (by omega) g0r s hs
  obtain ⟨o1, o2, o3, o4, -⟩ := ok
  have q1 := sm_mem (fun i _ => o1 i) (show c < W * T by omega)
  have q2 := o1 c
  have q3 := o3 c
  have q4 := o4 c
  have : (s : Int) ≤ 12 := by omega
  unfold zR
  omega
theorem q_lava {E : zE} {k : Nat} {M : zM} {P' : zM → Prop} {a s c t : Int} (hA : RelA k M) (hs : rStp M) (h1 : zR a) (h2 : zR s) (h3 : zR c) (h4 : zR t)
    (h : ∀ M' : zM, (∀ x j, dStp x j = false → M' x j = M x j) → rStp M' → P' M') : zPP E mX11_lava mX12_lava [.inl a, .inl s, .inl c, .inl t] M P' := by
  have hl := hA.2.2.2.2.2.2.1
  obtain ⟨w1, w2⟩ := wt_r hl
  have hA0 := hA
  obtain ⟨-, -, -, -, -, -, -, -, ⟨wc, wr, -⟩, -⟩ := hA
  have l2 := hl.2.1
  -- the reference refuses
  have no : ∀ r : Int, ¬ ((0 ≤ a ∧ a < M 102 58) ∧ (0 ≤ s ∧ s ≤ 12) ∧ (0 ≤ c ∧ c < M 102 51 * M 102 52) ∧ (0 ≤ t ∧ t ≤ 1)) → zP E mX12_lava [.inr (.inr 102), .inl a, .inl s, .inl c, .inl t] M (fun r2 M2 => (zR (-1000) ∧ zR r2) ∧ -1000 = r2 ∧ P' M2) := by
    intro r hn
    have fin : (zR (-1000) ∧ zR (-1000)) ∧ (-1000 : Int) = -1000 ∧ P' (zup M 102 2 0) := q_end (zRd rfl) (h _ (st_up rfl) (rStp_R (st_up rfl) (fun x hx => zup_ne _ _ _ (by omega)) hs wr.2))
    refine vcX12_lava _ _ _ _ ?_
    rintro M1 rfl
    have e1 : zup M 102 2 0 102 58 = M 102 58 := by simp [zup_r]
    have e2 : zup M 102 2 0 102 51 = M 102 51 := by simp [zup_r]
    have e3 : zup M 102 2 0 102 52 = M 102 52 := by simp [zup_r]
    refine r_isWorld h1 (by rw [e1]; exact wr) ?_
    rw [e1]
    by_cases g1 : 0 ≤ a ∧ a < M 102 58
    · rw [if_pos g1]
      refine ⟨zRd rfl, fun q => absurd q (by decide), fun _ => ?_⟩
      refine r_isIn h2 (zRd rfl) (zRd rfl) ?_
      by_cases g2 : 0 ≤ s ∧ s ≤ 12
      · rw [if_pos g2]
        refine ⟨zRd rfl, fun q => absurd q (by decide), fun _ => ?_⟩
        refine r_isCell h3 (by rw [e2, e3]; exact w2) ?_
        rw [e2, e3]
        by_cases g3 : 0 ≤ c ∧ c < M 102 51 * M 102 52
        · rw [if_pos g3]
          refine ⟨zRd rfl, fun q => absurd q (by decide), fun _ => ?_⟩
          refine r_isIn h4 (zRd rfl) (zRd rfl) ?_
          rw [if_neg (fun g4 => hn ⟨g1, g2, g3, g4⟩)]
          exact ⟨zRd rfl, fun q => absurd rfl q, fun _ => fin⟩
        · rw [if_neg g3]
          exact ⟨zRd rfl, fun _ => fin, fun q => absurd rfl q⟩
      · rw [if_neg g2]
        exact ⟨zRd rfl, fun _ => fin, fun q => absurd rfl q⟩
    · rw [if_neg g1]
      exact ⟨zRd rfl, fun _ => fin, fun q => absurd rfl q⟩
  refine vcX11_lava _ _ _ _ ?_
  refine c_isWorld h1 (by rw [wc]; exact wr) ?_
  rw [wc]
  by_cases g1 : 0 ≤ a ∧ a < M 102 58
  · rw [if_pos g1]
    refine ⟨zRd rfl, fun q => absurd q (by decide), fun _ => ?_⟩
    refine c_within h2 (zRd rfl) (zRd rfl) ?_
    by_cases g2 : 0 ≤ s ∧ s ≤ 12
    · rw [if_pos g2]
      refine ⟨zRd rfl, fun q => absurd q (by decide), fun _ => ?_⟩
      refine c_lhas h3 (by rw [l2]; omega) ?_
      rw [l2]
      by_cases g3 : 0 ≤ c ∧ c < M 102 51 * M 102 52
      · rw [if_pos g3]
        refine ⟨zRd rfl, fun q => absurd q (by decide), fun _ => ?_⟩
        refine c_within h4 (zRd rfl) (zRd rfl) ?_
        by_cases g4 : 0 ≤ t ∧ t ≤ 1
        · rw [if_pos g4]
          refine ⟨zRd rfl, fun _ => ?_, fun q => absurd q (by decide)⟩
          obtain ⟨w, hw⟩ : ∃ w : Nat, a = (w : Int) := ⟨a.toNat, by omega⟩
          obtain ⟨sn, hsn⟩ : ∃ sn : Nat, s = (sn : Int) := ⟨s.toNat, by omega⟩
          obtain ⟨cn, hcn⟩ : ∃ cn : Nat, c = (cn : Int) := ⟨c.toNat, by omega⟩
          subst hw hsn hcn
          refine c_stepped hA0 hs g1.2 ?_
          intro M1 f1 r1 s1 k1
          have hA1 := st_rel f1 hA0
          have hF3 : zIs_0 (fid w : Int) := by
            rcases fid3 (show w < 3 by omega) with ⟨-, e⟩ | ⟨-, e⟩ | ⟨-, e⟩ <;> rw [e] <;> unfold zIs_0 <;> simp
          have g1' : (w : Int) < M1 102 58 := by rw [f1 102 58 rfl]; exact g1.2
          have g3' : (cn : Int) < M1 102 51 * M1 102 52 := by rw [f1 102 51 rfl, f1 102 52 rfl]; exact g3.2
          obtain ⟨z1, z2, -⟩ := lvR_ok (s := sn) hA1 g1' (by omega) cn g3'
          have f2 : ∀ x j, dStp x j = false → zup M1 102 2 0 x j = M1 x j := st_up rfl
          have ref : ∀ v : Int, zR v → v = (if t = 0 then (lvR M1 w sn).1 cn else (lvR M1 w sn).2.1 cn) → zP E mX12_lava [.inr (.inr 102), .inl (w : Int), .inl (sn : Int), .inl (cn : Int), .inl t] M1 (fun r2 M2 => (zR v ∧ zR r2) ∧ v = r2 ∧ P' M2) := by
            intro v hv hv2
            refine vcX12_lava _ _ _ _ ?_
            intro M2 h2'
            have f3 : ∀ x j, dStp x j = false → M2 x j = M1 x j := by rw [h2']; exact f2
            have hA2 := st_rel f3 hA1
            refine r_isWorld h1 (by rw [f3 102 58 rfl, f1 102 58 rfl]; exact wr) ?_
            rw [f3 102 58 rfl, f1 102 58 rfl, if_pos g1]
            refine ⟨zRd rfl, fun q => absurd q (by decide), fun _ => ?_⟩
            refine r_isIn h2 (zRd rfl) (zRd rfl) ?_
            rw [if_pos g2]
            refine ⟨zRd rfl, fun q => absurd q (by decide), fun _ => ?_⟩
            refine r_isCell h3 (by rw [f3 102 51 rfl, f3 102 52 rfl, f1 102 51 rfl, f1 102 52 rfl]; exact w2) ?_
            rw [f3 102 51 rfl, f3 102 52 rfl, f1 102 51 rfl, f1 102 52 rfl, if_pos g3]
            refine ⟨zRd rfl, fun q => absurd q (by decide), fun _ => ?_⟩
            refine r_isIn h4 (zRd rfl) (zRd rfl) ?_
            rw [if_pos g4]
            refine ⟨zRd rfl, fun _ => ?_, fun q => absurd q (by decide)⟩
            refine r_flowsA hA2 (by rw [f3 102 58 rfl]; exact g1') ?_
            intro M3 u1 u2 u3
            have f4 := lvFr_st u1
            have hc3 : ∀ x, x < 102 → M3 x = M1 x := fun x hx => by
              rw [u1 x (by omega) (by omega) (by omega) (by omega) (by omega), h2', zup_ne _ _ _ (by omega)]
            have fin : P' M3 := h M3 (st_trans f1 (st_trans f3 f4)) (rStp_R (st_trans f3 f4) hc3 r1 (by rw [f1 102 58 rfl]; exact wr.2))
            have ix : (64 * (sn : Int) + (cn : Int)).toNat = 64 * sn + cn := by omega
            obtain ⟨v1, v2⟩ := u2 sn (by omega) cn (by rw [f3 102 51 rfl, f3 102 52 rfl]; exact g3')
            rw [lvR_st f3] at v1 v2
            rw [ix, v1, v2]
            refine ⟨h4, fun q => ⟨by omega, ?_⟩, fun q => ⟨by omega, ?_⟩⟩
            · rw [if_neg q] at hv2
              rw [← hv2]
              exact q_end hv fin
            · rw [if_pos q] at hv2
              rw [← hv2]
              exact q_end hv fin
          have cb : (cn : Int) < 64 := by omega
          have e1 : ((fid w : Int) + 1).toNat = fid w + 1 := by omega
          have e2 : ((fid w : Int) + 2).toNat = fid w + 2 := by omega
          have ix : ((sn : Int) * 64 + (cn : Int)).toNat = 64 * sn + cn := by omega
          obtain ⟨k2, -⟩ := k1
          obtain ⟨k3, k4⟩ := k2 sn (by omega) cn g3'
          refine ⟨h4, fun q => ⟨hF3, vcX0_groundBehind _ _ _ hF3 ⟨by omega, ?_⟩⟩, fun q => ⟨hF3, vcX0_lavaBehind _ _ _ hF3 ⟨by omega, ?_⟩⟩⟩
          · rw [e2, ix, k4]
            exact ref _ z2 (by rw [if_neg q])
          · rw [e1, ix, k3]
            exact ref _ z1 (by rw [if_pos q])
        · rw [if_neg g4]
          exact ⟨zRd rfl, fun q => absurd rfl q, fun _ => no 0 (fun q => g4 q.2.2.2)⟩
      · rw [if_neg g3]
        exact ⟨zRd rfl, fun _ => no 0 (fun q => g3 q.2.2.1), fun q => absurd rfl q⟩
    · rw [if_neg g2]
      exact ⟨zRd rfl, fun _ => no 0 (fun q => g2 q.2.1), fun q => absurd rfl q⟩
  · rw [if_neg g1]
    exact ⟨zRd rfl, fun _ => no 0 (fun q => g1 q.1), fun q => absurd rfl q⟩
theorem q_reached {E : zE} {k : Nat} {M : zM} {P' : zM → Prop} {a c : Int} (hA : RelA k M) (hs : rStp M) (h1 : zR a) (h3 : zR c)
    (h : ∀ M' : zM, (∀ x j, dStp x j = false → M' x j = M x j) → rStp M' → P' M') : zPP E mX11_reached mX12_reached [.inl a, .inl c] M P' := by
  have hl := hA.2.2.2.2.2.2.1
  obtain ⟨w1, w2⟩ := wt_r hl
  have hA0 := hA
  obtain ⟨-, -, -, -, -, -, -, -, ⟨wc, wr, -⟩, -⟩ := hA
  have l2 := hl.2.1
  have no : ¬ ((0 ≤ a ∧ a < M 102 58) ∧ (0 ≤ c ∧ c < M 102 51 * M 102 52)) → zP E mX12_reached [.inr (.inr 102), .inl a, .inl c] M (fun r2 M2 => (zR (-1) ∧ zR r2) ∧ -1 = r2 ∧ P' M2) := by
    intro hn
    have fin : (zR (-1) ∧ zR (-1)) ∧ (-1 : Int) = -1 ∧ P' (zup M 102 2 0) := q_end (zRd rfl) (h _ (st_up rfl) (rStp_R (st_up rfl) (fun x hx => zup_ne _ _ _ (by omega)) hs wr.2))
    refine vcX12_reached _ _ ?_
    rintro M1 rfl
    have e1 : zup M 102 2 0 102 58 = M 102 58 := by simp [zup_r]
    have e2 : zup M 102 2 0 102 51 = M 102 51 := by simp [zup_r]
    have e3 : zup M 102 2 0 102 52 = M 102 52 := by simp [zup_r]
    refine r_isWorld h1 (by rw [e1]; exact wr) ?_
    rw [e1]
    by_cases g1 : 0 ≤ a ∧ a < M 102 58
    · rw [if_pos g1]
      refine ⟨zRd rfl, fun q => absurd q (by decide), fun _ => ?_⟩
      refine r_isCell h3 (by rw [e2, e3]; exact w2) ?_
      rw [e2, e3, if_neg (fun g3 => hn ⟨g1, g3⟩)]
      exact ⟨zRd rfl, fun q => absurd rfl q, fun _ => fin⟩
    · rw [if_neg g1]
      exact ⟨zRd rfl, fun _ => fin, fun q => absurd rfl q⟩
  refine vcX11_reached _ _ ?_
  refine c_isWorld h1 (by rw [wc]; exact wr) ?_
  rw [wc]
  by_cases g1 : 0 ≤ a ∧ a < M 102 58
  · rw [if_pos g1]
    refine ⟨zRd rfl, fun q => absurd q (by decide), fun _ => ?_⟩
    refine c_lhas h3 (by rw [l2]; omega) ?_
    rw [l2]
    by_cases g3 : 0 ≤ c ∧ c < M 102 51 * M 102 52
    · rw [if_pos g3]
      refine ⟨zRd rfl, fun _ => ?_, fun q => absurd q (by decide)⟩
      obtain ⟨w, hw⟩ : ∃ w : Nat, a = (w : Int) := ⟨a.toNat, by omega⟩
      obtain ⟨cn, hcn⟩ : ∃ cn : Nat, c = (cn : Int) := ⟨c.toNat, by omega⟩
      subst hw hcn
      refine c_stepped hA0 hs g1.2 ?_
      intro M1 f1 r1 s1 k1
      have hA1 := st_rel f1 hA0
      have hF3 : zIs_0 (fid w : Int) := by
        rcases fid3 (show w < 3 by omega) with ⟨-, e⟩ | ⟨-, e⟩ | ⟨-, e⟩ <;> rw [e] <;> unfold zIs_0 <;> simp
      have g1' : (w : Int) < M1 102 58 := by rw [f1 102 58 rfl]; exact g1.2
      have g3' : (cn : Int) < M1 102 51 * M1 102 52 := by rw [f1 102 51 rfl, f1 102 52 rfl]; exact g3.2
      obtain ⟨-, -, z3⟩ := lvR_ok (s := 12) hA1 g1' (by omega) cn g3'
      have e3 : ((fid w : Int) + 3).toNat = fid w + 3 := by omega
      have ce : (cn : Int).toNat = cn := Int.toNat_natCast cn
      obtain ⟨-, k2, -⟩ := k1
      rw [e3, ce, k2 cn g3']
      refine ⟨hF3, by omega, ?_⟩
      refine vcX12_reached _ _ ?_
      intro M2 h2'
      have f3 : ∀ x j, dStp x j = false → M2 x j = M1 x j := by rw [h2']; exact st_up rfl
      have hA2 := st_rel f3 hA1
      refine r_isWorld h1 (by rw [f3 102 58 rfl, f1 102 58 rfl]; exact wr) ?_
      rw [f3 102 58 rfl, f1 102 58 rfl, if_pos g1]
      refine ⟨zRd rfl, fun q => absurd q (by decide), fun _ => ?_⟩
      refine r_isCell h3 (by rw [f3 102 51 rfl, f3 102 52 rfl, f1 102 51 rfl, f1 102 52 rfl]; exact w2) ?_
      rw [f3 102 51 rfl, f3 102 52 rfl, f1 102 51 rfl, f1 102 52 rfl, if_pos g3]
      refine ⟨zRd rfl, fun _ => ?_, fun q => absurd q (by decide)⟩
      refine r_flowsA hA2 (by rw [f3 102 58 rfl]; exact g1') ?_
      intro M3 u1 u2 u3
      have f4 := lvFr_st u1
      have hc3 : ∀ x, x < 102 → M3 x = M1 x := fun x hx => by
        rw [u1 x (by omega) (by omega) (by omega) (by omega) (by omega), h2', zup_ne _ _ _ (by omega)]
      have v3 := u3 cn (by rw [f3 102 51 rfl, f3 102 52 rfl]; exact g3')
      rw [lvR_st f3] at v3
      rw [ce, v3]
      refine ⟨by omega, q_end (by unfold zR; omega) (h M3 (st_trans f1 (st_trans f3 f4)) (rStp_R (st_trans f3 f4) hc3 r1 (by rw [f1 102 58 rfl]; exact wr.2)))⟩
    · rw [if_neg g3]
      exact ⟨zRd rfl, fun q => absurd rfl q, fun _ => no (fun q => g3 q.2)⟩
  · rw [if_neg g1]
    exact ⟨zRd rfl, fun _ => no (fun q => g1 q.1), fun q => absurd rfl q⟩
