/-! every call that changes something keeps the relation -/
theorem bs_up {M N : zM} {a i : Nat} {v : Int} (h : bs M N) (hd : dNb a i = true ∨ a < 102) : bs M (zup N a i v) := fun x j hx hn => by
  rw [zup_q]
  by_cases q : x = a ∧ j = i
  · exfalso
    rcases hd with hd | hd
    · rw [q.1, q.2, hd] at hn
      cases hn
    · omega
  · rw [if_neg q]
    exact h x j hx hn
theorem k_hours {k : Nat} {M M' : zM} {n : Int} (h : REL k M) (hn : 0 ≤ n ∧ M 102 3 + n ≤ 99) (hM' : M' = zup (zup (zup M 0 0 (M 102 3 + n)) 102 2 0) 102 3 (M 102 3 + n)) : REL (k + 1) M' := by
  obtain ⟨h0, h1, h2, ⟨e, er⟩, h4, h5, h6, h7, h8, h9, h10, h11, h12, h13⟩ := RelA_up h.1
  have b : bs M M' := by rw [hM']; exact bs_up (bs_up (bs_up (bs_r M) (Or.inr (by decide))) (Or.inl rfl)) (Or.inl rfl)
  refine REL_bs h ⟨zFix_c (by rw [hM']; (try simp only [cAl, cEs, cPl, cLv]); repeat (first | exact per_refl | refine zup_same rfl ?_)) h0, rTape_c (by rw [hM']; (try simp only [cAl, cEs, cPl, cLv]); repeat (first | exact per_refl | refine zup_same rfl ?_)) h1, rFlt_c (by rw [hM']; (try simp only [cAl, cEs, cPl, cLv]); repeat (first | exact per_refl | refine zup_same rfl ?_)) h2, ?_, rPst_c (by rw [hM']; (try simp only [cAl, cEs, cPl, cLv]); repeat (first | exact per_refl | refine zup_same rfl ?_)) h4, rRdg_c (by rw [hM']; (try simp only [cAl, cEs, cPl, cLv]); repeat (first | exact per_refl | refine zup_same rfl ?_)) h5, rLnd_c (by rw [hM']; (try simp only [cAl, cEs, cPl, cLv]); repeat (first | exact per_refl | refine zup_same rfl ?_)) h6, rWks_c (by rw [hM']; (try simp only [cAl, cEs, cPl, cLv]); repeat (first | exact per_refl | refine zup_same rfl ?_)) h7, rWld_c (by rw [hM']; (try simp only [cAl, cEs, cPl, cLv]); repeat (first | exact per_refl | refine zup_same rfl ?_)) h8, rPlc_c (by rw [hM']; (try simp only [cAl, cEs, cPl, cLv]); repeat (first | exact per_refl | refine zup_same rfl ?_)) h9, rRds_c (by rw [hM']; (try simp only [cAl, cEs, cPl, cLv]); repeat (first | exact per_refl | refine zup_same rfl ?_)) h10, rWnd_c (by rw [hM']; (try simp only [cAl, cEs, cPl, cLv]); repeat (first | exact per_refl | refine zup_same rfl ?_)) h11, rBks_c (by rw [hM']; (try simp only [cAl, cEs, cPl, cLv]); repeat (first | exact per_refl | refine zup_same rfl ?_)) h12, ?_⟩ b (fun x j hx n1 _ _ _ _ => ?_)
  · have v1 : M' 0 0 = M 102 3 + n := (by rw [hM']; simp [cAl, cEs, cPl, cLv, zup_q])
    have v2 : M' 102 3 = M 102 3 + n := (by rw [hM']; simp [cAl, cEs, cPl, cLv, zup_q])
    exact ⟨by rw [v1, v2], by omega⟩
  · have v1 : M' 0 6 = M 0 6 := (by rw [hM']; simp [cAl, cEs, cPl, cLv, zup_q])
    have v2 : M' 0 7 = M 0 7 := (by rw [hM']; simp [cAl, cEs, cPl, cLv, zup_q])
    unfold rKpt at h13 ⊢
    rw [v1, v2]
    exact h13
  · rw [hM', zup_q, if_neg (by omega), zup_q, if_neg (by omega), zup_q, if_neg n1]
theorem k_wind {k : Nat} {M M' : zM} {a b c : Int} (h : REL k M) (hb : 0 ≤ b ∧ b ≤ 7) (hc : 0 ≤ c ∧ c ≤ 7) (hM' : M' = zup (zup (zup (zup (zup M 67 a.toNat b) 68 a.toNat c) 102 2 0) 163 a.toNat b) 164 a.toNat c) : REL (k + 1) M' := by
  obtain ⟨h0, h1, h2, h3, h4, h5, h6, h7, h8, h9, h10, ⟨w1, w2, w3, w4⟩, h12, h13⟩ := RelA_up h.1
  have bb : bs M M' := by rw [hM']; exact bs_up (bs_up (bs_up (bs_up (bs_up (bs_r M) (Or.inr (by decide))) (Or.inr (by decide))) (Or.inl rfl)) (Or.inl rfl)) (Or.inl rfl)
  refine REL_bs h ⟨zFix_c (by rw [hM']; (try simp only [cAl, cEs, cPl, cLv]); repeat (first | exact per_refl | refine zup_same rfl ?_)) h0, rTape_c (by rw [hM']; (try simp only [cAl, cEs, cPl, cLv]); repeat (first | exact per_refl | refine zup_same rfl ?_)) h1, rFlt_c (by rw [hM']; (try simp only [cAl, cEs, cPl, cLv]); repeat (first | exact per_refl | refine zup_same rfl ?_)) h2, rNow_c (by rw [hM']; (try simp only [cAl, cEs, cPl, cLv]); repeat (first | exact per_refl | refine zup_same rfl ?_)) h3, rPst_c (by rw [hM']; (try simp only [cAl, cEs, cPl, cLv]); repeat (first | exact per_refl | refine zup_same rfl ?_)) h4, rRdg_c (by rw [hM']; (try simp only [cAl, cEs, cPl, cLv]); repeat (first | exact per_refl | refine zup_same rfl ?_)) h5, rLnd_c (by rw [hM']; (try simp only [cAl, cEs, cPl, cLv]); repeat (first | exact per_refl | refine zup_same rfl ?_)) h6, rWks_c (by rw [hM']; (try simp only [cAl, cEs, cPl, cLv]); repeat (first | exact per_refl | refine zup_same rfl ?_)) h7, rWld_c (by rw [hM']; (try simp only [cAl, cEs, cPl, cLv]); repeat (first | exact per_refl | refine zup_same rfl ?_)) h8, rPlc_c (by rw [hM']; (try simp only [cAl, cEs, cPl, cLv]); repeat (first | exact per_refl | refine zup_same rfl ?_)) h9, rRds_c (by rw [hM']; (try simp only [cAl, cEs, cPl, cLv]); repeat (first | exact per_refl | refine zup_same rfl ?_)) h10, ?_, rBks_c (by rw [hM']; (try simp only [cAl, cEs, cPl, cLv]); repeat (first | exact per_refl | refine zup_same rfl ?_)) h12, ?_⟩ bb (fun x j hx _ _ _ n1 n2 => ?_)
  · have v1 : ∀ i, M' 67 i = if i = a.toNat then b else M 67 i := fun i => (by rw [hM']; simp [cAl, cEs, cPl, cLv, zup_q])
    have v2 : ∀ i, M' 68 i = if i = a.toNat then c else M 68 i := fun i => (by rw [hM']; simp [cAl, cEs, cPl, cLv, zup_q])
    have v3 : ∀ i, M' 163 i = if i = a.toNat then b else M 163 i := fun i => (by rw [hM']; simp [cAl, cEs, cPl, cLv, zup_q])
    have v4 : ∀ i, M' 164 i = if i = a.toNat then c else M 164 i := fun i => (by rw [hM']; simp [cAl, cEs, cPl, cLv, zup_q])
    refine ⟨fun i => ?_, fun i => ?_, fun i => ?_, fun i => ?_⟩
    · rw [v1, v3, w1]
    · rw [v2, v4, w2]
    · rw [v3]
      have := w3 i
      split <;> omega
    · rw [v4]
      have := w4 i
      split <;> omega
  · have v1 : M' 0 6 = M 0 6 := (by rw [hM']; simp [cAl, cEs, cPl, cLv, zup_q])
    have v2 : M' 0 7 = M 0 7 := (by rw [hM']; simp [cAl, cEs, cPl, cLv, zup_q])
    unfold rKpt at h13 ⊢
    rw [v1, v2]
    exact h13
  · rw [hM', zup_q, if_neg (by omega), zup_q, if_neg (by omega), zup_q, if_neg (by omega), zup_q, if_neg (by omega), zup_q, if_neg (by omega)]
theorem feed_same {d : Nat → Nat → Bool} {M M' : zM} (f1 : ∀ x, x ≠ 2 → x ≠ 3 → x ≠ 102 → x ≠ 103 → M' x = M x) (f2 : ∀ j, j ≠ 2 → j ≠ 1 → M' 102 j = M 102 j) (h1 : ∀ j, d 2 j = false) (h2 : ∀ j, d 3 j = false) (h3 : ∀ j, d 103 j = false) (h4 : d 102 2 = false) (h5 : d 102 1 = false) : ∀ x j, d x j = true → M' x j = M x j := fun x j hx => by
  have k : ∀ y i, x = y → j = i → d y i = false → False := fun y i e1 e2 e3 => by
    rw [e1, e2, e3] at hx
    cases hx
  by_cases q : x = 102
  · rw [q]
    exact f2 j (fun q2 => k _ _ q q2 h4) (fun q2 => k _ _ q q2 h5)
  · rw [f1 x (fun q2 => k _ _ q2 rfl (h1 j)) (fun q2 => k _ _ q2 rfl (h2 j)) q (fun q2 => k _ _ q2 rfl (h3 j))]
theorem k_feed {k : Nat} {M M' : zM} (h : REL k M) (f1 : ∀ x, x ≠ 2 → x ≠ 3 → x ≠ 102 → x ≠ 103 → M' x = M x) (f2 : ∀ j, j ≠ 2 → j ≠ 1 → M' 102 j = M 102 j) (ht : rTape M') : REL (k + 1) M' := by
  obtain ⟨h0, h1, h2, h3, h4, h5, h6, h7, h8, h9, h10, h11, h12, h13⟩ := RelA_up h.1
  have b : bs M M' := fun x j hx hn => by
    have kk : ∀ y i, x = y → j = i → dNb y i = true → False := fun y i e1 e2 e3 => by
      rw [e1, e2, e3] at hn
      cases hn
    by_cases q : x = 102
    · rw [q]
      exact f2 j (fun q2 => kk _ _ q q2 rfl) (fun q2 => kk _ _ q q2 rfl)
    · rw [f1 x (by omega) (by omega) q (fun q2 => kk _ _ q2 rfl rfl)]
  refine REL_bs h ⟨zFix_c (feed_same f1 f2 (fun _ => rfl) (fun _ => rfl) (fun _ => rfl) rfl rfl) h0, ht, rFlt_c (feed_same f1 f2 (fun _ => rfl) (fun _ => rfl) (fun _ => rfl) rfl rfl) h2, rNow_c (feed_same f1 f2 (fun _ => rfl) (fun _ => rfl) (fun _ => rfl) rfl rfl) h3, rPst_c (feed_same f1 f2 (fun _ => rfl) (fun _ => rfl) (fun _ => rfl) rfl rfl) h4, rRdg_c (feed_same f1 f2 (fun _ => rfl) (fun _ => rfl) (fun _ => rfl) rfl rfl) h5, rLnd_c (feed_same f1 f2 (fun _ => rfl) (fun _ => rfl) (fun _ => rfl) rfl rfl) h6, rWks_c (feed_same f1 f2 (fun _ => rfl) (fun _ => rfl) (fun _ => rfl) rfl rfl) h7, rWld_c (feed_same f1 f2 (fun _ => rfl) (fun _ => rfl) (fun _ => rfl) rfl rfl) h8, rPlc_c (feed_same f1 f2 (fun _ => rfl) (fun _ => rfl) (fun _ => rfl) rfl rfl) h9, rRds_c (feed_same f1 f2 (fun _ => rfl) (fun _ => rfl) (fun _ => rfl) rfl rfl) h10, rWnd_c (feed_same f1 f2 (fun _ => rfl) (fun _ => rfl) (fun _ => rfl) rfl rfl) h11, rBks_c (feed_same f1 f2 (fun _ => rfl) (fun _ => rfl) (fun _ => rfl) rfl rfl) h12, ?_⟩ b (fun x j hx _ n1 n2 _ _ => ?_)
  · unfold rKpt at h13 ⊢
    rw [f1 0 (by decide) (by decide) (by decide) (by decide)]
    exact h13
  · rw [f1 x n1 n2 (by omega) (by omega)]
theorem cnd_k {M M' : zM} (h : rCnd M) (e1 : M' 102 96 = M 102 96) (e2 : M' 162 = M 162) (e3 : M' 102 51 * M' 102 52 = M 102 51 * M 102 52) : rCnd M' := by
  unfold rCnd at h ⊢
  rw [e1, e2, e3]
  exact h
/-- nothing but escape is forgotten -/
theorem k_es {k : Nat} {M M' : zM} (h : REL k M) (hM' : M' = zup (cEs M) 102 2 0) : REL (k + 1) M' := by
  obtain ⟨h0, h1, h2, h3, h4, h5, h6, h7, h8, h9, h10, h11, h12, h13⟩ := RelA_up h.1
  refine REL_mut h ⟨zFix_c (by rw [hM']; (try simp only [cAl, cEs, cPl, cLv]); repeat (first | exact per_refl | refine zup_same rfl ?_)) h0, rTape_c (by rw [hM']; (try simp only [cAl, cEs, cPl, cLv]); repeat (first | exact per_refl | refine zup_same rfl ?_)) h1, rFlt_c (by rw [hM']; (try simp only [cAl, cEs, cPl, cLv]); repeat (first | exact per_refl | refine zup_same rfl ?_)) h2, rNow_c (by rw [hM']; (try simp only [cAl, cEs, cPl, cLv]); repeat (first | exact per_refl | refine zup_same rfl ?_)) h3, rPst_c (by rw [hM']; (try simp only [cAl, cEs, cPl, cLv]); repeat (first | exact per_refl | refine zup_same rfl ?_)) h4, rRdg_c (by rw [hM']; (try simp only [cAl, cEs, cPl, cLv]); repeat (first | exact per_refl | refine zup_same rfl ?_)) h5, rLnd_c (by rw [hM']; (try simp only [cAl, cEs, cPl, cLv]); repeat (first | exact per_refl | refine zup_same rfl ?_)) h6, rWks_c (by rw [hM']; (try simp only [cAl, cEs, cPl, cLv]); repeat (first | exact per_refl | refine zup_same rfl ?_)) h7, rWld_c (by rw [hM']; (try simp only [cAl, cEs, cPl, cLv]); repeat (first | exact per_refl | refine zup_same rfl ?_)) h8, rPlc_c (by rw [hM']; (try simp only [cAl, cEs, cPl, cLv]); repeat (first | exact per_refl | refine zup_same rfl ?_)) h9, rRds_c (by rw [hM']; (try simp only [cAl, cEs, cPl, cLv]); repeat (first | exact per_refl | refine zup_same rfl ?_)) h10, rWnd_c (by rw [hM']; (try simp only [cAl, cEs, cPl, cLv]); repeat (first | exact per_refl | refine zup_same rfl ?_)) h11, rBks_c (by rw [hM']; (try simp only [cAl, cEs, cPl, cLv]); repeat (first | exact per_refl | refine zup_same rfl ?_)) h12, ?_⟩ (by rw [hM']; (try simp only [cAl, cEs, cPl, cLv]); repeat (first | exact per_refl | refine zup_same rfl ?_)) (rStp_m h.1 (by rw [hM']; (try simp only [cAl, cEs, cPl, cLv]); repeat (first | exact per_refl | refine zup_same rfl ?_)) h.2.1.2.1) ⟨(by rw [hM']; simp [cAl, cEs, cPl, cLv, zup_q]), (all3 (p := fun x => M' x 10 = 0) (by rw [hM']; simp [cAl, cEs, cPl, cLv, zup_q]) (by rw [hM']; simp [cAl, cEs, cPl, cLv, zup_q]) (by rw [hM']; simp [cAl, cEs, cPl, cLv, zup_q])), (allP (p := fun x => M' x 0 = 0) (by rw [hM']; simp [cAl, cEs, cPl, cLv, zup_q]) (by rw [hM']; simp [cAl, cEs, cPl, cLv, zup_q]) (by rw [hM']; simp [cAl, cEs, cPl, cLv, zup_q]))⟩ (cnd_k h.2.2.2.1 (by rw [hM']; simp [cAl, cEs, cPl, cLv, zup_q]) (by funext j; rw [hM']; simp [cEs, cPl, zup_q]) (by rw [hM']; simp [cEs, cPl, zup_q]))
  have v1 : M' 0 6 = M 0 6 := (by rw [hM']; simp [cAl, cEs, cPl, cLv, zup_q])
  have v2 : M' 0 7 = 0 := (by rw [hM']; simp [cAl, cEs, cPl, cLv, zup_q])
  unfold rKpt at h13 ⊢
  rw [v1, v2]
  exact ⟨h13.1, Or.inl rfl⟩
theorem k_town {k : Nat} {M M' : zM} {c n t l : Int} (h : REL k M) (g1 : 0 ≤ c ∧ c < M 102 51 * M 102 52) (g2 : 1 ≤ n ∧ n ≤ 999) (g3 : 1 ≤ t ∧ t ≤ 4) (g4 : 0 ≤ l ∧ l ≤ 5) (g5 : M 102 69 < 8)
    (hM' : M' = zup (zup (zup (zup (zup (zup (zup (zup (zup (zup (zup (zup (zup (cEs M) 45 (M 102 69).toNat c) 46 (M 102 69).toNat n) 47 (M 102 69).toNat t) 48 (M 102 69).toNat l) 49 (M 102 69).toNat 0) 44 6 (M 102 69 + 1)) 102 2 0) 142 (M 102 69).toNat 1) 143 (M 102 69).toNat c) 144 (M 102 69).toNat n) 145 (M 102 69).toNat t) 146 (M 102 69).toNat l) 102 69 (M 102 69 + 1)) : REL (k + 1) M' := by
  obtain ⟨h0, h1, h2, h3, h4, h5, h6, h7, h8, ⟨p1, p2, p3, p4⟩, ⟨r1, r2, r3⟩, h11, h12, h13⟩ := RelA_up h.1
  have wt := (wt_r h6).1
  refine REL_mut h ⟨zFix_c (by rw [hM']; (try simp only [cAl, cEs, cPl, cLv]); repeat (first | exact per_refl | refine zup_same rfl ?_)) h0, rTape_c (by rw [hM']; (try simp only [cAl, cEs, cPl, cLv]); repeat (first | exact per_refl | refine zup_same rfl ?_)) h1, rFlt_c (by rw [hM']; (try simp only [cAl, cEs, cPl, cLv]); repeat (first | exact per_refl | refine zup_same rfl ?_)) h2, rNow_c (by rw [hM']; (try simp only [cAl, cEs, cPl, cLv]); repeat (first | exact per_refl | refine zup_same rfl ?_)) h3, rPst_c (by rw [hM']; (try simp only [cAl, cEs, cPl, cLv]); repeat (first | exact per_refl | refine zup_same rfl ?_)) h4, rRdg_c (by rw [hM']; (try simp only [cAl, cEs, cPl, cLv]); repeat (first | exact per_refl | refine zup_same rfl ?_)) h5, rLnd_c (by rw [hM']; (try simp only [cAl, cEs, cPl, cLv]); repeat (first | exact per_refl | refine zup_same rfl ?_)) h6, rWks_c (by rw [hM']; (try simp only [cAl, cEs, cPl, cLv]); repeat (first | exact per_refl | refine zup_same rfl ?_)) h7, rWld_c (by rw [hM']; (try simp only [cAl, cEs, cPl, cLv]); repeat (first | exact per_refl | refine zup_same rfl ?_)) h8, ?_, ?_, rWnd_c (by rw [hM']; (try simp only [cAl, cEs, cPl, cLv]); repeat (first | exact per_refl | refine zup_same rfl ?_)) h11, rBks_c (by rw [hM']; (try simp only [cAl, cEs, cPl, cLv]); repeat (first | exact per_refl | refine zup_same rfl ?_)) h12, ?_⟩ (by rw [hM']; (try simp only [cAl, cEs, cPl, cLv]); repeat (first | exact per_refl | refine zup_same rfl ?_)) (rStp_m h.1 (by rw [hM']; (try simp only [cAl, cEs, cPl, cLv]); repeat (first | exact per_refl | refine zup_same rfl ?_)) h.2.1.2.1) ⟨(by rw [hM']; simp [cAl, cEs, cPl, cLv, zup_q]), (all3 (p := fun x => M' x 10 = 0) (by rw [hM']; simp [cAl, cEs, cPl, cLv, zup_q]) (by rw [hM']; simp [cAl, cEs, cPl, cLv, zup_q]) (by rw [hM']; simp [cAl, cEs, cPl, cLv, zup_q])), (allP (p := fun x => M' x 0 = 0) (by rw [hM']; simp [cAl, cEs, cPl, cLv, zup_q]) (by rw [hM']; simp [cAl, cEs, cPl, cLv, zup_q]) (by rw [hM']; simp [cAl, cEs, cPl, cLv, zup_q]))⟩ (cnd_k h.2.2.2.1 (by rw [hM']; simp [cAl, cEs, cPl, cLv, zup_q]) (by funext j; rw [hM']; simp [cEs, cPl, zup_q]) (by rw [hM']; simp [cEs, cPl, zup_q]))
  · obtain ⟨P, hP⟩ : ∃ P : Nat, M 102 69 = (P : Int) := ⟨(M 102 69).toNat, by omega⟩
    rw [hP, Int.toNat_natCast] at hM'
    have v0 : M' 44 6 = (P : Int) + 1 := (by rw [hM']; simp [cAl, cEs, cPl, cLv, zup_q])
    have v1 : M' 102 69 = (P : Int) + 1 := (by rw [hM']; simp [cAl, cEs, cPl, cLv, zup_q])
    have v2 : ∀ i, M' 45 i = if i = P then c else M 45 i := fun i => (by rw [hM']; simp [cAl, cEs, cPl, cLv, zup_q])
    have v3 : ∀ i, M' 46 i = if i = P then n else M 46 i := fun i => (by rw [hM']; simp [cAl, cEs, cPl, cLv, zup_q])
    have v4 : ∀ i, M' 47 i = if i = P then t else M 47 i := fun i => (by rw [hM']; simp [cAl, cEs, cPl, cLv, zup_q])
    have v5 : ∀ i, M' 48 i = if i = P then l else M 48 i := fun i => (by rw [hM']; simp [cAl, cEs, cPl, cLv, zup_q])
    have v6 : ∀ i, M' 49 i = if i = P then 0 else M 49 i := fun i => (by rw [hM']; simp [cAl, cEs, cPl, cLv, zup_q])
    have v7 : ∀ i, M' 142 i = if i = P then 1 else M 142 i := fun i => (by rw [hM']; simp [cAl, cEs, cPl, cLv, zup_q])
    have v8 : ∀ i, M' 143 i = if i = P then c else M 143 i := fun i => (by rw [hM']; simp [cAl, cEs, cPl, cLv, zup_q])
    have v9 : ∀ i, M' 144 i = if i = P then n else M 144 i := fun i => (by rw [hM']; simp [cAl, cEs, cPl, cLv, zup_q])
    have v10 : ∀ i, M' 145 i = if i = P then t else M 145 i := fun i => (by rw [hM']; simp [cAl, cEs, cPl, cLv, zup_q])
    have v11 : ∀ i, M' 146 i = if i = P then l else M 146 i := fun i => (by rw [hM']; simp [cAl, cEs, cPl, cLv, zup_q])
    have v12 : ∀ i, M' 147 i = M 147 i := fun i => (by rw [hM']; simp [cAl, cEs, cPl, cLv, zup_q])
    have v13 : M' 102 51 * M' 102 52 = M 102 51 * M 102 52 := by rw [hM']; simp [cEs, cPl, zup_q]
    refine ⟨by omega, by omega, fun p hp => ?_, fun p => ?_⟩
    · rw [v2, v3, v4, v5, v6, v7, v8, v9, v10, v11, v12, v13]
      by_cases q : p = P
      · simp only [if_pos q]
        exact Or.inl ⟨trivial, trivial, trivial, trivial, trivial, trivial, g1, g2, g3, g4⟩
      · simp only [if_neg q]
        exact p3 p (by omega)
    · rw [v2]
      split
      · unfold zR; omega
      · exact p4 p
  · have v0 : M' 44 13 = M 44 13 := (by rw [hM']; simp [cAl, cEs, cPl, cLv, zup_q])
    have v1 : M' 102 76 = M 102 76 := (by rw [hM']; simp [cAl, cEs, cPl, cLv, zup_q])
    have v2 : M' 102 69 = M 102 69 + 1 := (by rw [hM']; simp [cAl, cEs, cPl, cLv, zup_q])
    have v13 : M' 102 51 * M' 102 52 = M 102 51 * M 102 52 := by rw [hM']; simp [cEs, cPl, zup_q]
    refine ⟨by omega, by omega, fun r hr => ?_⟩
    have a1 : M' 51 r = M 51 r := (by rw [hM']; simp [cAl, cEs, cPl, cLv, zup_q])
    have a2 : M' 52 r = M 52 r := (by rw [hM']; simp [cAl, cEs, cPl, cLv, zup_q])
    have a3 : M' 53 r = M 53 r := (by rw [hM']; simp [cAl, cEs, cPl, cLv, zup_q])
    have a4 : M' 54 r = M 54 r := (by rw [hM']; simp [cAl, cEs, cPl, cLv, zup_q])
    have a5 : M' 55 r = M 55 r := (by rw [hM']; simp [cAl, cEs, cPl, cLv, zup_q])
    have a6 : M' 56 r = M 56 r := (by rw [hM']; simp [cAl, cEs, cPl, cLv, zup_q])
    have a7 : M' 148 r = M 148 r := (by rw [hM']; simp [cAl, cEs, cPl, cLv, zup_q])
    have a8 : M' 149 r = M 149 r := (by rw [hM']; simp [cAl, cEs, cPl, cLv, zup_q])
    have a9 : M' 150 r = M 150 r := (by rw [hM']; simp [cAl, cEs, cPl, cLv, zup_q])
    have a10 : M' 151 r = M 151 r := (by rw [hM']; simp [cAl, cEs, cPl, cLv, zup_q])
    have a11 : M' 152 r = M 152 r := (by rw [hM']; simp [cAl, cEs, cPl, cLv, zup_q])
    have a12 : M' 153 r = M 153 r := (by rw [hM']; simp [cAl, cEs, cPl, cLv, zup_q])
    have := r3 r (by omega)
    rw [a1, a2, a3, a4, a5, a6, a7, a8, a9, a10, a11, a12, v2, v13]
    refine ⟨this.1, this.2.1, this.2.2.1, this.2.2.2.1, this.2.2.2.2.1, this.2.2.2.2.2.1, by omega, by omega, this.2.2.2.2.2.2.2.2⟩
  · have v1 : M' 0 6 = M 0 6 := (by rw [hM']; simp [cAl, cEs, cPl, cLv, zup_q])
    have v2 : M' 0 7 = 0 := (by rw [hM']; simp [cAl, cEs, cPl, cLv, zup_q])
    unfold rKpt at h13 ⊢
    rw [v1, v2]
    exact ⟨h13.1, Or.inl rfl⟩
theorem k_shelter {k : Nat} {M M' : zM} {n : Int} (h : REL k M) (g1 : 0 ≤ n ∧ n ≤ 9999) (g5 : M 102 69 < 8)
    (hM' : M' = zup (zup (zup (zup (zup (zup (zup (zup (zup (zup (zup (cEs M) 45 (M 102 69).toNat (-1)) 46 (M 102 69).toNat 0) 47 (M 102 69).toNat 0) 48 (M 102 69).toNat 0) 49 (M 102 69).toNat 0) 44 6 (M 102 69 + 1)) 49 (M 102 69).toNat n) 102 2 0) 142 (M 102 69).toNat 0) 147 (M 102 69).toNat n) 102 69 (M 102 69 + 1)) : REL (k + 1) M' := by
  obtain ⟨h0, h1, h2, h3, h4, h5, h6, h7, h8, ⟨p1, p2, p3, p4⟩, ⟨r1, r2, r3⟩, h11, h12, h13⟩ := RelA_up h.1
  refine REL_mut h ⟨zFix_c (by rw [hM']; (try simp only [cAl, cEs, cPl, cLv]); repeat (first | exact per_refl | refine zup_same rfl ?_)) h0, rTape_c (by rw [hM']; (try simp only [cAl, cEs, cPl, cLv]); repeat (first | exact per_refl | refine zup_same rfl ?_)) h1, rFlt_c (by rw [hM']; (try simp only [cAl, cEs, cPl, cLv]); repeat (first | exact per_refl | refine zup_same rfl ?_)) h2, rNow_c (by rw [hM']; (try simp only [cAl, cEs, cPl, cLv]); repeat (first | exact per_refl | refine zup_same rfl ?_)) h3, rPst_c (by rw [hM']; (try simp only [cAl, cEs, cPl, cLv]); repeat (first | exact per_refl | refine zup_same rfl ?_)) h4, rRdg_c (by rw [hM']; (try simp only [cAl, cEs, cPl, cLv]); repeat (first | exact per_refl | refine zup_same rfl ?_)) h5, rLnd_c (by rw [hM']; (try simp only [cAl, cEs, cPl, cLv]); repeat (first | exact per_refl | refine zup_same rfl ?_)) h6, rWks_c (by rw [hM']; (try simp only [cAl, cEs, cPl, cLv]); repeat (first | exact per_refl | refine zup_same rfl ?_)) h7, rWld_c (by rw [hM']; (try simp only [cAl, cEs, cPl, cLv]); repeat (first | exact per_refl | refine zup_same rfl ?_)) h8, ?_, ?_, rWnd_c (by rw [hM']; (try simp only [cAl, cEs, cPl, cLv]); repeat (first | exact per_refl | refine zup_same rfl ?_)) h11, rBks_c (by rw [hM']; (try simp only [cAl, cEs, cPl, cLv]); repeat (first | exact per_refl | refine zup_same rfl ?_)) h12, ?_⟩ (by rw [hM']; (try simp only [cAl, cEs, cPl, cLv]); repeat (first | exact per_refl | refine zup_same rfl ?_)) (rStp_m h.1 (by rw [hM']; (try simp only [cAl, cEs, cPl, cLv]); repeat (first | exact per_refl | refine zup_same rfl ?_)) h.2.1.2.1) ⟨(by rw [hM']; simp [cAl, cEs, cPl, cLv, zup_q]), (all3 (p := fun x => M' x 10 = 0) (by rw [hM']; simp [cAl, cEs, cPl, cLv, zup_q]) (by rw [hM']; simp [cAl, cEs, cPl, cLv, zup_q]) (by rw [hM']; simp [cAl, cEs, cPl, cLv, zup_q])), (allP (p := fun x => M' x 0 = 0) (by rw [hM']; simp [cAl, cEs, cPl, cLv, zup_q]) (by rw [hM']; simp [cAl, cEs, cPl, cLv, zup_q]) (by rw [hM']; simp [cAl, cEs, cPl, cLv, zup_q]))⟩ (cnd_k h.2.2.2.1 (by rw [hM']; simp [cAl, cEs, cPl, cLv, zup_q]) (by funext j; rw [hM']; simp [cEs, cPl, zup_q]) (by rw [hM']; simp [cEs, cPl, zup_q]))
  · obtain ⟨P, hP⟩ : ∃ P : Nat, M 102 69 = (P : Int) := ⟨(M 102 69).toNat, by omega⟩
    rw [hP, Int.toNat_natCast] at hM'
    have v0 : M' 44 6 = (P : Int) + 1 := (by rw [hM']; simp [cAl, cEs, cPl, cLv, zup_q])
    have v1 : M' 102 69 = (P : Int) + 1 := (by rw [hM']; simp [cAl, cEs, cPl, cLv, zup_q])
    have v2 : ∀ i, M' 45 i = if i = P then -1 else M 45 i := fun i => (by rw [hM']; simp [cAl, cEs, cPl, cLv, zup_q])
    have v3 : ∀ i, M' 46 i = if i = P then 0 else M 46 i := fun i => (by rw [hM']; simp [cAl, cEs, cPl, cLv, zup_q])
    have v4 : ∀ i, M' 47 i = if i = P then 0 else M 47 i := fun i => (by rw [hM']; simp [cAl, cEs, cPl, cLv, zup_q])
    have v5 : ∀ i, M' 48 i = if i = P then 0 else M 48 i := fun i => (by rw [hM']; simp [cAl, cEs, cPl, cLv, zup_q])
    have v6 : ∀ i, M' 49 i = if i = P then n else M 49 i := fun i => by
      rw [hM']
      simp [cEs, cPl, zup_q]
      by_cases q : i = P
      · simp [q]
      · simp [q]
    have v7 : ∀ i, M' 142 i = if i = P then 0 else M 142 i := fun i => (by rw [hM']; simp [cAl, cEs, cPl, cLv, zup_q])
    have v8 : ∀ i, M' 143 i = M 143 i := fun i => (by rw [hM']; simp [cAl, cEs, cPl, cLv, zup_q])
    have v9 : ∀ i, M' 144 i = M 144 i := fun i => (by rw [hM']; simp [cAl, cEs, cPl, cLv, zup_q])
    have v10 : ∀ i, M' 145 i = M 145 i := fun i => (by rw [hM']; simp [cAl, cEs, cPl, cLv, zup_q])
    have v11 : ∀ i, M' 146 i = M 146 i := fun i => (by rw [hM']; simp [cAl, cEs, cPl, cLv, zup_q])
    have v12 : ∀ i, M' 147 i = if i = P then n else M 147 i := fun i => (by rw [hM']; simp [cAl, cEs, cPl, cLv, zup_q])
    have v13 : M' 102 51 * M' 102 52 = M 102 51 * M 102 52 := by rw [hM']; simp [cEs, cPl, zup_q]
    refine ⟨by omega, by omega, fun p hp => ?_, fun p => ?_⟩
    · rw [v2, v3, v4, v5, v6, v7, v8, v9, v10, v11, v12, v13]
      by_cases q : p = P
      · simp only [if_pos q]
        exact Or.inr ⟨trivial, trivial, trivial, trivial, g1⟩
      · simp only [if_neg q]
        exact p3 p (by omega)
    · rw [v2]
      split
      · exact zRd rfl
      · exact p4 p
  · have v0 : M' 44 13 = M 44 13 := (by rw [hM']; simp [cAl, cEs, cPl, cLv, zup_q])
    have v1 : M' 102 76 = M 102 76 := (by rw [hM']; simp [cAl, cEs, cPl, cLv, zup_q])
    have v2 : M' 102 69 = M 102 69 + 1 := (by rw [hM']; simp [cAl, cEs, cPl, cLv, zup_q])
    have v13 : M' 102 51 * M' 102 52 = M 102 51 * M 102 52 := by rw [hM']; simp [cEs, cPl, zup_q]
    refine ⟨by omega, by omega, fun r hr => ?_⟩
    have a1 : M' 51 r = M 51 r := (by rw [hM']; simp [cAl, cEs, cPl, cLv, zup_q])
    have a2 : M' 52 r = M 52 r := (by rw [hM']; simp [cAl, cEs, cPl, cLv, zup_q])
    have a3 : M' 53 r = M 53 r := (by rw [hM']; simp [cAl, cEs, cPl, cLv, zup_q])
    have a4 : M' 54 r = M 54 r := (by rw [hM']; simp [cAl, cEs, cPl, cLv, zup_q])
    have a5 : M' 55 r = M 55 r := (by rw [hM']; simp [cAl, cEs, cPl, cLv, zup_q])
    have a6 : M' 56 r = M 56 r := (by rw [hM']; simp [cAl, cEs, cPl, cLv, zup_q])
    have a7 : M' 148 r = M 148 r := (by rw [hM']; simp [cAl, cEs, cPl, cLv, zup_q])
    have a8 : M' 149 r = M 149 r := (by rw [hM']; simp [cAl, cEs, cPl, cLv, zup_q])
    have a9 : M' 150 r = M 150 r := (by rw [hM']; simp [cAl, cEs, cPl, cLv, zup_q])
    have a10 : M' 151 r = M 151 r := (by rw [hM']; simp [cAl, cEs, cPl, cLv, zup_q])
    have a11 : M' 152 r = M 152 r := (by rw [hM']; simp [cAl, cEs, cPl, cLv, zup_q])
    have a12 : M' 153 r = M 153 r := (by rw [hM']; simp [cAl, cEs, cPl, cLv, zup_q])
    have := r3 r (by omega)
    rw [a1, a2, a3, a4, a5, a6, a7, a8, a9, a10, a11, a12, v2, v13]
    refine ⟨this.1, this.2.1, this.2.2.1, this.2.2.2.1, this.2.2.2.2.1, this.2.2.2.2.2.1, by omega, by omega, this.2.2.2.2.2.2.2.2⟩
  · have v1 : M' 0 6 = M 0 6 := (by rw [hM']; simp [cAl, cEs, cPl, cLv, zup_q])
    have v2 : M' 0 7 = 0 := (by rw [hM']; simp [cAl, cEs, cPl, cLv, zup_q])
    unfold rKpt at h13 ⊢
    rw [v1, v2]
    exact ⟨h13.1, Or.inl rfl⟩
theorem k_road {k : Nat} {M M' : zM} {a b n cp e c : Int} (h : REL k M) (g : (0 ≤ a ∧ a < M 102 69) ∧ (0 ≤ b ∧ b < M 102 69) ∧ a ≠ b ∧ (1 ≤ n ∧ n ≤ 5) ∧ (1 ≤ cp ∧ cp ≤ 999) ∧ (1 ≤ e ∧ e ≤ 6) ∧ (c = -1 ∨ (0 ≤ c ∧ c < M 102 51 * M 102 52))) (g5 : M 102 76 < 14)
    (hM' : M' = zup (zup (zup (zup (zup (zup (zup (zup (zup (zup (zup (zup (zup (zup (zup (cEs M) 51 (M 102 76).toNat a) 52 (M 102 76).toNat b) 53 (M 102 76).toNat n) 54 (M 102 76).toNat cp) 55 (M 102 76).toNat e) 56 (M 102 76).toNat c) 44 13 (M 102 76 + 1)) 102 2 0) 148 (M 102 76).toNat a) 149 (M 102 76).toNat b) 150 (M 102 76).toNat n) 151 (M 102 76).toNat cp) 152 (M 102 76).toNat e) 153 (M 102 76).toNat c) 102 76 (M 102 76 + 1)) : REL (k + 1) M' := by
  obtain ⟨h0, h1, h2, h3, h4, h5, h6, h7, h8, h9, ⟨r1, r2, r3⟩, h11, h12, h13⟩ := RelA_up h.1
  refine REL_mut h ⟨zFix_c (by rw [hM']; (try simp only [cAl, cEs, cPl, cLv]); repeat (first | exact per_refl | refine zup_same rfl ?_)) h0, rTape_c (by rw [hM']; (try simp only [cAl, cEs, cPl, cLv]); repeat (first | exact per_refl | refine zup_same rfl ?_)) h1, rFlt_c (by rw [hM']; (try simp only [cAl, cEs, cPl, cLv]); repeat (first | exact per_refl | refine zup_same rfl ?_)) h2, rNow_c (by rw [hM']; (try simp only [cAl, cEs, cPl, cLv]); repeat (first | exact per_refl | refine zup_same rfl ?_)) h3, rPst_c (by rw [hM']; (try simp only [cAl, cEs, cPl, cLv]); repeat (first | exact per_refl | refine zup_same rfl ?_)) h4, rRdg_c (by rw [hM']; (try simp only [cAl, cEs, cPl, cLv]); repeat (first | exact per_refl | refine zup_same rfl ?_)) h5, rLnd_c (by rw [hM']; (try simp only [cAl, cEs, cPl, cLv]); repeat (first | exact per_refl | refine zup_same rfl ?_)) h6, rWks_c (by rw [hM']; (try simp only [cAl, cEs, cPl, cLv]); repeat (first | exact per_refl | refine zup_same rfl ?_)) h7, rWld_c (by rw [hM']; (try simp only [cAl, cEs, cPl, cLv]); repeat (first | exact per_refl | refine zup_same rfl ?_)) h8, rPlc_c (by rw [hM']; (try simp only [cAl, cEs, cPl, cLv]); repeat (first | exact per_refl | refine zup_same rfl ?_)) h9, ?_, rWnd_c (by rw [hM']; (try simp only [cAl, cEs, cPl, cLv]); repeat (first | exact per_refl | refine zup_same rfl ?_)) h11, rBks_c (by rw [hM']; (try simp only [cAl, cEs, cPl, cLv]); repeat (first | exact per_refl | refine zup_same rfl ?_)) h12, ?_⟩ (by rw [hM']; (try simp only [cAl, cEs, cPl, cLv]); repeat (first | exact per_refl | refine zup_same rfl ?_)) (rStp_m h.1 (by rw [hM']; (try simp only [cAl, cEs, cPl, cLv]); repeat (first | exact per_refl | refine zup_same rfl ?_)) h.2.1.2.1) ⟨(by rw [hM']; simp [cAl, cEs, cPl, cLv, zup_q]), (all3 (p := fun x => M' x 10 = 0) (by rw [hM']; simp [cAl, cEs, cPl, cLv, zup_q]) (by rw [hM']; simp [cAl, cEs, cPl, cLv, zup_q]) (by rw [hM']; simp [cAl, cEs, cPl, cLv, zup_q])), (allP (p := fun x => M' x 0 = 0) (by rw [hM']; simp [cAl, cEs, cPl, cLv, zup_q]) (by rw [hM']; simp [cAl, cEs, cPl, cLv, zup_q]) (by rw [hM']; simp [cAl, cEs, cPl, cLv, zup_q]))⟩ (cnd_k h.2.2.2.1 (by rw [hM']; simp [cAl, cEs, cPl, cLv, zup_q]) (by funext j; rw [hM']; simp [cEs, cPl, zup_q]) (by rw [hM']; simp [cEs, cPl, zup_q]))
  · obtain ⟨R, hR⟩ : ∃ R : Nat, M 102 76 = (R : Int) := ⟨(M 102 76).toNat, by omega⟩
    rw [hR, Int.toNat_natCast] at hM'
    have v0 : M' 44 13 = (R : Int) + 1 := (by rw [hM']; simp [cAl, cEs, cPl, cLv, zup_q])
    have v1 : M' 102 76 = (R : Int) + 1 := (by rw [hM']; simp [cAl, cEs, cPl, cLv, zup_q])
    have v2 : M' 102 69 = M 102 69 := (by rw [hM']; simp [cAl, cEs, cPl, cLv, zup_q])
    have v13 : M' 102 51 * M' 102 52 = M 102 51 * M 102 52 := by rw [hM']; simp [cEs, cPl, zup_q]
    have a1 : ∀ r, M' 51 r = if r = R then a else M 51 r := fun r => (by rw [hM']; simp [cAl, cEs, cPl, cLv, zup_q])
    have a2 : ∀ r, M' 52 r = if r = R then b else M 52 r := fun r => (by rw [hM']; simp [cAl, cEs, cPl, cLv, zup_q])
    have a3 : ∀ r, M' 53 r = if r = R then n else M 53 r := fun r => (by rw [hM']; simp [cAl, cEs, cPl, cLv, zup_q])
    have a4 : ∀ r, M' 54 r = if r = R then cp else M 54 r := fun r => (by rw [hM']; simp [cAl, cEs, cPl, cLv, zup_q])
    have a5 : ∀ r, M' 55 r = if r = R then e else M 55 r := fun r => (by rw [hM']; simp [cAl, cEs, cPl, cLv, zup_q])
    have a6 : ∀ r, M' 56 r = if r = R then c else M 56 r := fun r => (by rw [hM']; simp [cAl, cEs, cPl, cLv, zup_q])
    have a7 : ∀ r, M' 148 r = if r = R then a else M 148 r := fun r => (by rw [hM']; simp [cAl, cEs, cPl, cLv, zup_q])
    have a8 : ∀ r, M' 149 r = if r = R then b else M 149 r := fun r => (by rw [hM']; simp [cAl, cEs, cPl, cLv, zup_q])
    have a9 : ∀ r, M' 150 r = if r = R then n else M 150 r := fun r => (by rw [hM']; simp [cAl, cEs, cPl, cLv, zup_q])
    have a10 : ∀ r, M' 151 r = if r = R then cp else M 151 r := fun r => (by rw [hM']; simp [cAl, cEs, cPl, cLv, zup_q])
    have a11 : ∀ r, M' 152 r = if r = R then e else M 152 r := fun r => (by rw [hM']; simp [cAl, cEs, cPl, cLv, zup_q])
    have a12 : ∀ r, M' 153 r = if r = R then c else M 153 r := fun r => (by rw [hM']; simp [cAl, cEs, cPl, cLv, zup_q])
    refine ⟨by omega, by omega, fun r hr => ?_⟩
    rw [a1, a2, a3, a4, a5, a6, a7, a8, a9, a10, a11, a12, v2, v13]
    by_cases q : r = R
    · simp only [if_pos q]
      exact ⟨trivial, trivial, trivial, trivial, trivial, trivial, g.1, g.2.1, g.2.2.1, g.2.2.2.1, g.2.2.2.2.1, g.2.2.2.2.2.1, g.2.2.2.2.2.2⟩
    · simp only [if_neg q]
      exact r3 r (by omega)
  · have v1 : M' 0 6 = M 0 6 := (by rw [hM']; simp [cAl, cEs, cPl, cLv, zup_q])
    have v2 : M' 0 7 = 0 := (by rw [hM']; simp [cAl, cEs, cPl, cLv, zup_q])
    unfold rKpt at h13 ⊢
    rw [v1, v2]
    exact ⟨h13.1, Or.inl rfl⟩
