/-! land, works and worlds keep the relation -/
theorem k_workT {k : Nat} {M M' : zM} {C : Nat} {o z : Int} {A : Nat} (h : REL k M) (hA : A = 130 ∨ A = 131) (ho : o = 0 ∨ o = 1) (hz : z = (if A = 130 then o + 2 * M 131 C else M 130 C + 2 * o)) (hw : o = 1 → M 102 57 < 4)
    (hM' : M' = zup (zup (zup (cLv (zup (zup M 31 C z) 28 5 (M 102 57 + (if o = 0 then -1 else 1)))) 102 2 0) A C o) 102 57 (M 102 57 + (if o = 0 then -1 else 1))) : REL (k + 1) M' := by
  have hk := h.1.2.2.2.2.2.2.2.1.2.1
  obtain ⟨h0, h1, h2, h3, h4, h5, ⟨l1, l2, l3, l4, l5, l6, l7, l8, l9, l10⟩, ⟨w1, w2, w3, w4, w5, w6⟩, h8, h9, h10, h11, h12, h13⟩ := RelA_up h.1
  have hA' : RelA (k + 1) M' := by
    rcases hA with rfl | rfl
    · rw [if_pos rfl] at hz
      refine ⟨zFix_c (by rw [hM']; (try simp only [cAl, cEs, cPl, cLv]); repeat (first | exact per_refl | refine zup_same rfl ?_)) h0, rTape_c (by rw [hM']; (try simp only [cAl, cEs, cPl, cLv]); repeat (first | exact per_refl | refine zup_same rfl ?_)) h1, rFlt_c (by rw [hM']; (try simp only [cAl, cEs, cPl, cLv]); repeat (first | exact per_refl | refine zup_same rfl ?_)) h2, rNow_c (by rw [hM']; (try simp only [cAl, cEs, cPl, cLv]); repeat (first | exact per_refl | refine zup_same rfl ?_)) h3, rPst_c (by rw [hM']; (try simp only [cAl, cEs, cPl, cLv]); repeat (first | exact per_refl | refine zup_same rfl ?_)) h4, rRdg_c (by rw [hM']; (try simp only [cAl, cEs, cPl, cLv]); repeat (first | exact per_refl | refine zup_same rfl ?_)) h5, ?_, ?_, rWld_c (by rw [hM']; (try simp only [cAl, cEs, cPl, cLv]); repeat (first | exact per_refl | refine zup_same rfl ?_)) h8, rPlc_c (by rw [hM']; (try simp only [cAl, cEs, cPl, cLv]); repeat (first | exact per_refl | refine zup_same rfl ?_)) h9, rRds_c (by rw [hM']; (try simp only [cAl, cEs, cPl, cLv]); repeat (first | exact per_refl | refine zup_same rfl ?_)) h10, rWnd_c (by rw [hM']; (try simp only [cAl, cEs, cPl, cLv]); repeat (first | exact per_refl | refine zup_same rfl ?_)) h11, rBks_c (by rw [hM']; (try simp only [cAl, cEs, cPl, cLv]); repeat (first | exact per_refl | refine zup_same rfl ?_)) h12, ?_⟩
      · have v1 : M' 28 0 = M 28 0 := (by rw [hM']; simp [cAl, cEs, cPl, cLv, zup_q])
        have v2 : M' 28 1 = M 28 1 := (by rw [hM']; simp [cAl, cEs, cPl, cLv, zup_q])
        have v3 : M' 102 51 = M 102 51 := (by rw [hM']; simp [cAl, cEs, cPl, cLv, zup_q])
        have v4 : M' 102 52 = M 102 52 := (by rw [hM']; simp [cAl, cEs, cPl, cLv, zup_q])
        have v5 : ∀ i, M' 29 i = M 29 i := fun i => (by rw [hM']; simp [cAl, cEs, cPl, cLv, zup_q])
        have v6 : ∀ i, M' 30 i = M 30 i := fun i => (by rw [hM']; simp [cAl, cEs, cPl, cLv, zup_q])
        have v7 : ∀ i, M' 31 i = if i = C then z else M 31 i := fun i => (by rw [hM']; simp [cAl, cEs, cPl, cLv, zup_q])
        have v8 : ∀ i, M' 130 i = if i = C then o else M 130 i := fun i => (by rw [hM']; simp [cAl, cEs, cPl, cLv, zup_q])
        have v9 : ∀ i, M' 131 i = M 131 i := fun i => (by rw [hM']; simp [cAl, cEs, cPl, cLv, zup_q])
        have v10 : ∀ i, M' 128 i = M 128 i := fun i => (by rw [hM']; simp [cAl, cEs, cPl, cLv, zup_q])
        have v11 : ∀ i, M' 129 i = M 129 i := fun i => (by rw [hM']; simp [cAl, cEs, cPl, cLv, zup_q])
        refine ⟨by rw [v1, v3, l1], by rw [v2, v3, v4, l2], by rw [v3]; exact l3, by rw [v4]; exact l4, fun i => by rw [v5, v10, l5], fun i => by rw [v6, v11, l6], fun i => ?_, fun i => ?_, fun i => by rw [v10]; exact l9 i, fun i => by rw [v11]; exact l10 i⟩
        · rw [v7, v8, v9]
          by_cases q : i = C
          · rw [if_pos q, if_pos q, q, hz]
          · rw [if_neg q, if_neg q, l7]
        · rw [v8, v9]
          have := l8 i
          split <;> omega
      · have a1 : M' 28 5 = M 102 57 + (if o = 0 then -1 else 1) := (by rw [hM']; simp [cAl, cEs, cPl, cLv, zup_q])
        have a2 : M' 102 57 = M 102 57 + (if o = 0 then -1 else 1) := (by rw [hM']; simp [cAl, cEs, cPl, cLv, zup_q])
        have a3 : M' 28 7 = M 28 7 := (by rw [hM']; simp [cAl, cEs, cPl, cLv, zup_q])
        have a4 : M' 102 96 = M 102 96 := (by rw [hM']; simp [cAl, cEs, cPl, cLv, zup_q])
        have a5 : ∀ i, M' 32 i = M 32 i := fun i => (by rw [hM']; simp [cAl, cEs, cPl, cLv, zup_q])
        have a6 : ∀ i, M' 162 i = M 162 i := fun i => (by rw [hM']; simp [cAl, cEs, cPl, cLv, zup_q])
        refine ⟨by rw [a1, a2], ?_, by rw [a3, a4, w3], by rw [a4]; exact w4, fun i => by rw [a5, a6, w5], fun i => by rw [a6]; exact w6 i⟩
        rw [a2]
        rcases ho with q | q
        · rw [if_pos q]; omega
        · have := hw q
          rw [if_neg (by omega)]; omega
      · have v1 : M' 0 6 = M 0 6 := (by rw [hM']; simp [cAl, cEs, cPl, cLv, zup_q])
        have v2 : M' 0 7 = 0 := (by rw [hM']; simp [cAl, cEs, cPl, cLv, zup_q])
        unfold rKpt at h13 ⊢
        rw [v1, v2]
        exact ⟨h13.1, Or.inl rfl⟩
    · rw [if_neg (by decide)] at hz
      refine ⟨zFix_c (by rw [hM']; (try simp only [cAl, cEs, cPl, cLv]); repeat (first | exact per_refl | refine zup_same rfl ?_)) h0, rTape_c (by rw [hM']; (try simp only [cAl, cEs, cPl, cLv]); repeat (first | exact per_refl | refine zup_same rfl ?_)) h1, rFlt_c (by rw [hM']; (try simp only [cAl, cEs, cPl, cLv]); repeat (first | exact per_refl | refine zup_same rfl ?_)) h2, rNow_c (by rw [hM']; (try simp only [cAl, cEs, cPl, cLv]); repeat (first | exact per_refl | refine zup_same rfl ?_)) h3, rPst_c (by rw [hM']; (try simp only [cAl, cEs, cPl, cLv]); repeat (first | exact per_refl | refine zup_same rfl ?_)) h4, rRdg_c (by rw [hM']; (try simp only [cAl, cEs, cPl, cLv]); repeat (first | exact per_refl | refine zup_same rfl ?_)) h5, ?_, ?_, rWld_c (by rw [hM']; (try simp only [cAl, cEs, cPl, cLv]); repeat (first | exact per_refl | refine zup_same rfl ?_)) h8, rPlc_c (by rw [hM']; (try simp only [cAl, cEs, cPl, cLv]); repeat (first | exact per_refl | refine zup_same rfl ?_)) h9, rRds_c (by rw [hM']; (try simp only [cAl, cEs, cPl, cLv]); repeat (first | exact per_refl | refine zup_same rfl ?_)) h10, rWnd_c (by rw [hM']; (try simp only [cAl, cEs, cPl, cLv]); repeat (first | exact per_refl | refine zup_same rfl ?_)) h11, rBks_c (by rw [hM']; (try simp only [cAl, cEs, cPl, cLv]); repeat (first | exact per_refl | refine zup_same rfl ?_)) h12, ?_⟩
      · have v1 : M' 28 0 = M 28 0 := (by rw [hM']; simp [cAl, cEs, cPl, cLv, zup_q])
        have v2 : M' 28 1 = M 28 1 := (by rw [hM']; simp [cAl, cEs, cPl, cLv, zup_q])
        have v3 : M' 102 51 = M 102 51 := (by rw [hM']; simp [cAl, cEs, cPl, cLv, zup_q])
        have v4 : M' 102 52 = M 102 52 := (by rw [hM']; simp [cAl, cEs, cPl, cLv, zup_q])
        have v5 : ∀ i, M' 29 i = M 29 i := fun i => (by rw [hM']; simp [cAl, cEs, cPl, cLv, zup_q])
        have v6 : ∀ i, M' 30 i = M 30 i := fun i => (by rw [hM']; simp [cAl, cEs, cPl, cLv, zup_q])
        have v7 : ∀ i, M' 31 i = if i = C then z else M 31 i := fun i => (by rw [hM']; simp [cAl, cEs, cPl, cLv, zup_q])
        have v8 : ∀ i, M' 130 i = M 130 i := fun i => (by rw [hM']; simp [cAl, cEs, cPl, cLv, zup_q])
        have v9 : ∀ i, M' 131 i = if i = C then o else M 131 i := fun i => (by rw [hM']; simp [cAl, cEs, cPl, cLv, zup_q])
        have v10 : ∀ i, M' 128 i = M 128 i := fun i => (by rw [hM']; simp [cAl, cEs, cPl, cLv, zup_q])
        have v11 : ∀ i, M' 129 i = M 129 i := fun i => (by rw [hM']; simp [cAl, cEs, cPl, cLv, zup_q])
        refine ⟨by rw [v1, v3, l1], by rw [v2, v3, v4, l2], by rw [v3]; exact l3, by rw [v4]; exact l4, fun i => by rw [v5, v10, l5], fun i => by rw [v6, v11, l6], fun i => ?_, fun i => ?_, fun i => by rw [v10]; exact l9 i, fun i => by rw [v11]; exact l10 i⟩
        · rw [v7, v8, v9]
          by_cases q : i = C
          · rw [if_pos q, if_pos q, q, hz]
          · rw [if_neg q, if_neg q, l7]
        · rw [v8, v9]
          have := l8 i
          split <;> omega
      · have a1 : M' 28 5 = M 102 57 + (if o = 0 then -1 else 1) := (by rw [hM']; simp [cAl, cEs, cPl, cLv, zup_q])
        have a2 : M' 102 57 = M 102 57 + (if o = 0 then -1 else 1) := (by rw [hM']; simp [cAl, cEs, cPl, cLv, zup_q])
        have a3 : M' 28 7 = M 28 7 := (by rw [hM']; simp [cAl, cEs, cPl, cLv, zup_q])
        have a4 : M' 102 96 = M 102 96 := (by rw [hM']; simp [cAl, cEs, cPl, cLv, zup_q])
        have a5 : ∀ i, M' 32 i = M 32 i := fun i => (by rw [hM']; simp [cAl, cEs, cPl, cLv, zup_q])
        have a6 : ∀ i, M' 162 i = M 162 i := fun i => (by rw [hM']; simp [cAl, cEs, cPl, cLv, zup_q])
        refine ⟨by rw [a1, a2], ?_, by rw [a3, a4, w3], by rw [a4]; exact w4, fun i => by rw [a5, a6, w5], fun i => by rw [a6]; exact w6 i⟩
        rw [a2]
        rcases ho with q | q
        · rw [if_pos q]; omega
        · have := hw q
          rw [if_neg (by omega)]; omega
      · have v1 : M' 0 6 = M 0 6 := (by rw [hM']; simp [cAl, cEs, cPl, cLv, zup_q])
        have v2 : M' 0 7 = 0 := (by rw [hM']; simp [cAl, cEs, cPl, cLv, zup_q])
        unfold rKpt at h13 ⊢
        rw [v1, v2]
        exact ⟨h13.1, Or.inl rfl⟩
  rcases hA with rfl | rfl
  · exact REL_mut h hA' (by rw [hM']; (try simp only [cAl, cEs, cPl, cLv]); repeat (first | exact per_refl | refine zup_same rfl ?_)) (stp_0 hA' (all3 (p := fun x => M' x 4 = 0) (by rw [hM']; simp [cAl, cEs, cPl, cLv, zup_q]) (by rw [hM']; simp [cAl, cEs, cPl, cLv, zup_q]) (by rw [hM']; simp [cAl, cEs, cPl, cLv, zup_q]))) ⟨(by rw [hM']; simp [cAl, cEs, cPl, cLv, zup_q]), (all3 (p := fun x => M' x 10 = 0) (by rw [hM']; simp [cAl, cEs, cPl, cLv, zup_q]) (by rw [hM']; simp [cAl, cEs, cPl, cLv, zup_q]) (by rw [hM']; simp [cAl, cEs, cPl, cLv, zup_q])), (allP (p := fun x => M' x 0 = 0) (by rw [hM']; simp [cAl, cEs, cPl, cLv, zup_q]) (by rw [hM']; simp [cAl, cEs, cPl, cLv, zup_q]) (by rw [hM']; simp [cAl, cEs, cPl, cLv, zup_q]))⟩ (cnd_k h.2.2.2.1 (by rw [hM']; simp [cAl, cEs, cPl, cLv, zup_q]) (by funext j; rw [hM']; simp [cLv, cEs, cPl, zup_q]) (by rw [hM']; simp [cLv, cEs, cPl, zup_q]))
  · exact REL_mut h hA' (by rw [hM']; (try simp only [cAl, cEs, cPl, cLv]); repeat (first | exact per_refl | refine zup_same rfl ?_)) (stp_0 hA' (all3 (p := fun x => M' x 4 = 0) (by rw [hM']; simp [cAl, cEs, cPl, cLv, zup_q]) (by rw [hM']; simp [cAl, cEs, cPl, cLv, zup_q]) (by rw [hM']; simp [cAl, cEs, cPl, cLv, zup_q]))) ⟨(by rw [hM']; simp [cAl, cEs, cPl, cLv, zup_q]), (all3 (p := fun x => M' x 10 = 0) (by rw [hM']; simp [cAl, cEs, cPl, cLv, zup_q]) (by rw [hM']; simp [cAl, cEs, cPl, cLv, zup_q]) (by rw [hM']; simp [cAl, cEs, cPl, cLv, zup_q])), (allP (p := fun x => M' x 0 = 0) (by rw [hM']; simp [cAl, cEs, cPl, cLv, zup_q]) (by rw [hM']; simp [cAl, cEs, cPl, cLv, zup_q]) (by rw [hM']; simp [cAl, cEs, cPl, cLv, zup_q]))⟩ (cnd_k h.2.2.2.1 (by rw [hM']; simp [cAl, cEs, cPl, cLv, zup_q]) (by funext j; rw [hM']; simp [cLv, cEs, cPl, zup_q]) (by rw [hM']; simp [cLv, cEs, cPl, zup_q]))
theorem zfill_same {d : Nat → Nat → Bool} {M M0 : zM} {a n : Nat} {v : Int} (hd : ∀ i, d a i = false) (h : ∀ x j, d x j = true → M x j = M0 x j) : ∀ x j, d x j = true → zfill M a n v x j = M0 x j := by
  intro x j hx
  rw [zfill_r]
  by_cases q : x = a ∧ j < n
  · rw [q.1, hd] at hx
    cases hx
  · rw [if_neg q]
    exact h x j hx
theorem land_same {d : Nat → Nat → Bool} {M M1 M' : zM} {w l : Int} (hM1 : M1 = cLv (zup (zup (zup (cLay M w l) 0 11 0) 44 6 0) 44 13 0)) (f1 : ∀ x, x ≠ 102 → x ≠ 128 → x ≠ 129 → x ≠ 130 → x ≠ 131 → M' x = M1 x)
    (f2 : ∀ j, M' 102 j = if j = 2 ∨ j = 57 ∨ j = 58 ∨ j = 69 ∨ j = 76 ∨ j = 96 then 0 else if j = 51 then w else if j = 52 then l else M 102 j)
    (h1 : ∀ x j, d x j = true → M1 x j = M x j) (h2 : ∀ j, d 128 j = false ∧ d 129 j = false ∧ d 130 j = false ∧ d 131 j = false) (h3 : d 102 2 = false ∧ d 102 57 = false ∧ d 102 58 = false ∧ d 102 69 = false ∧ d 102 76 = false ∧ d 102 96 = false ∧ d 102 51 = false ∧ d 102 52 = false) : ∀ x j, d x j = true → M' x j = M x j := fun x j hx => by
  have k : ∀ y i, x = y → j = i → d y i = false → False := fun y i e1 e2 e3 => by
    rw [e1, e2, e3] at hx
    cases hx
  obtain ⟨b1, b2, b3, b4⟩ := h2 j
  obtain ⟨c1, c2, c3, c4, c5, c6, c7, c8⟩ := h3
  by_cases q : x = 102
  · rw [q, f2, if_neg, if_neg (fun q2 => k _ _ q q2 c7), if_neg (fun q2 => k _ _ q q2 c8)]
    rintro (q2 | q2 | q2 | q2 | q2 | q2)
    · exact k _ _ q q2 c1
    · exact k _ _ q q2 c2
    · exact k _ _ q q2 c3
    · exact k _ _ q q2 c4
    · exact k _ _ q q2 c5
    · exact k _ _ q q2 c6
  · rw [f1 x q (fun q2 => k _ _ q2 rfl b1) (fun q2 => k _ _ q2 rfl b2) (fun q2 => k _ _ q2 rfl b3) (fun q2 => k _ _ q2 rfl b4)]
    exact h1 x j hx
theorem k_land {k : Nat} {M M1 M' : zM} {w l : Int} (h : REL k M) (g1 : 2 ≤ w ∧ w ≤ 8) (g2 : 2 ≤ l ∧ l ≤ 8) (hM1 : M1 = cLv (zup (zup (zup (cLay M w l) 0 11 0) 44 6 0) 44 13 0)) (f1 : ∀ x, x ≠ 102 → x ≠ 128 → x ≠ 129 → x ≠ 130 → x ≠ 131 → M' x = M1 x)
    (f2 : ∀ j, M' 102 j = if j = 2 ∨ j = 57 ∨ j = 58 ∨ j = 69 ∨ j = 76 ∨ j = 96 then 0 else if j = 51 then w else if j = 52 then l else M 102 j)
    (f3 : ∀ i : Nat, M' 128 i = if i < 64 then 0 else M 128 i) (f4 : ∀ i : Nat, M' 129 i = if i < 64 then 0 else M 129 i) (f5 : ∀ i : Nat, M' 130 i = if i < 64 then 0 else M 130 i) (f6 : ∀ i : Nat, M' 131 i = if i < 64 then 0 else M 131 i) : REL (k + 1) M' := by
  obtain ⟨h0, h1, h2, h3, h4, h5, ⟨l1, l2, l3, l4, l5, l6, l7, l8, l9, l10⟩, ⟨w1, w2, w3, w4, w5, w6⟩, ⟨d1, d2, d3, d4⟩, ⟨p1, p2, p3, p4⟩, ⟨r1, r2, r3⟩, h11, h12, h13⟩ := RelA_up h.1
  have hA' : RelA (k + 1) M' := by
    refine ⟨zFix_c (land_same hM1 f1 f2 (by rw [hM1]; simp only [cLv, cEs, cPl, cLay]; repeat (first | exact per_refl | refine zup_same rfl ?_ | refine zfill_same (fun _ => rfl) ?_)) (fun _ => ⟨rfl, rfl, rfl, rfl⟩) ⟨rfl, rfl, rfl, rfl, rfl, rfl, rfl, rfl⟩) h0, rTape_c (land_same hM1 f1 f2 (by rw [hM1]; simp only [cLv, cEs, cPl, cLay]; repeat (first | exact per_refl | refine zup_same rfl ?_ | refine zfill_same (fun _ => rfl) ?_)) (fun _ => ⟨rfl, rfl, rfl, rfl⟩) ⟨rfl, rfl, rfl, rfl, rfl, rfl, rfl, rfl⟩) h1, rFlt_c (land_same hM1 f1 f2 (by rw [hM1]; simp only [cLv, cEs, cPl, cLay]; repeat (first | exact per_refl | refine zup_same rfl ?_ | refine zfill_same (fun _ => rfl) ?_)) (fun _ => ⟨rfl, rfl, rfl, rfl⟩) ⟨rfl, rfl, rfl, rfl, rfl, rfl, rfl, rfl⟩) h2, rNow_c (land_same hM1 f1 f2 (by rw [hM1]; simp only [cLv, cEs, cPl, cLay]; repeat (first | exact per_refl | refine zup_same rfl ?_ | refine zfill_same (fun _ => rfl) ?_)) (fun _ => ⟨rfl, rfl, rfl, rfl⟩) ⟨rfl, rfl, rfl, rfl, rfl, rfl, rfl, rfl⟩) h3, rPst_c (land_same hM1 f1 f2 (by rw [hM1]; simp only [cLv, cEs, cPl, cLay]; repeat (first | exact per_refl | refine zup_same rfl ?_ | refine zfill_same (fun _ => rfl) ?_)) (fun _ => ⟨rfl, rfl, rfl, rfl⟩) ⟨rfl, rfl, rfl, rfl, rfl, rfl, rfl, rfl⟩) h4, rRdg_c (land_same hM1 f1 f2 (by rw [hM1]; simp only [cLv, cEs, cPl, cLay]; repeat (first | exact per_refl | refine zup_same rfl ?_ | refine zfill_same (fun _ => rfl) ?_)) (fun _ => ⟨rfl, rfl, rfl, rfl⟩) ⟨rfl, rfl, rfl, rfl, rfl, rfl, rfl, rfl⟩) h5, ?_, ?_, ?_, ?_, ?_, rWnd_c (land_same hM1 f1 f2 (by rw [hM1]; simp only [cLv, cEs, cPl, cLay]; repeat (first | exact per_refl | refine zup_same rfl ?_ | refine zfill_same (fun _ => rfl) ?_)) (fun _ => ⟨rfl, rfl, rfl, rfl⟩) ⟨rfl, rfl, rfl, rfl, rfl, rfl, rfl, rfl⟩) h11, rBks_c (land_same hM1 f1 f2 (by rw [hM1]; simp only [cLv, cEs, cPl, cLay]; repeat (first | exact per_refl | refine zup_same rfl ?_ | refine zfill_same (fun _ => rfl) ?_)) (fun _ => ⟨rfl, rfl, rfl, rfl⟩) ⟨rfl, rfl, rfl, rfl, rfl, rfl, rfl, rfl⟩) h12, ?_⟩
    · have v1 : M' 28 0 = w := (by rw [f1 _ (by decide) (by decide) (by decide) (by decide) (by decide), hM1]; simp [cLv, cEs, cPl, cLay, zup_q, zfill_r])
      have v2 : M' 28 1 = w * l := (by rw [f1 _ (by decide) (by decide) (by decide) (by decide) (by decide), hM1]; simp [cLv, cEs, cPl, cLay, zup_q, zfill_r])
      have v3 : M' 102 51 = w := (by rw [f2]; simp)
      have v4 : M' 102 52 = l := (by rw [f2]; simp)
      have v5 : ∀ i, M' 29 i = if i < 64 then 0 else M 29 i := fun i => (by rw [f1 _ (by decide) (by decide) (by decide) (by decide) (by decide), hM1]; simp [cLv, cEs, cPl, cLay, zup_q, zfill_r])
      have v6 : ∀ i, M' 30 i = if i < 64 then 0 else M 30 i := fun i => (by rw [f1 _ (by decide) (by decide) (by decide) (by decide) (by decide), hM1]; simp [cLv, cEs, cPl, cLay, zup_q, zfill_r])
      have v7 : ∀ i, M' 31 i = if i < 64 then 0 else M 31 i := fun i => (by rw [f1 _ (by decide) (by decide) (by decide) (by decide) (by decide), hM1]; simp [cLv, cEs, cPl, cLay, zup_q, zfill_r])
      refine ⟨by rw [v1, v3], by rw [v2, v3, v4], by rw [v3]; exact g1, by rw [v4]; exact g2, fun i => by rw [v5, f3, l5], fun i => by rw [v6, f4, l6], fun i => ?_, fun i => ?_, fun i => ?_, fun i => ?_⟩
      · rw [v7, f5, f6]
        split
        · rfl
        · exact l7 i
      · rw [f5, f6]
        have := l8 i
        split <;> omega
      · rw [f3]
        have := l9 i
        split <;> omega
      · rw [f4]
        have := l10 i
        split <;> omega
    · have v1 : M' 28 5 = 0 := (by rw [f1 _ (by decide) (by decide) (by decide) (by decide) (by decide), hM1]; simp [cLv, cEs, cPl, cLay, zup_q, zfill_r])
      have v2 : M' 102 57 = 0 := (by rw [f2]; simp)
      have v3 : M' 28 7 = 0 := (by rw [f1 _ (by decide) (by decide) (by decide) (by decide) (by decide), hM1]; simp [cLv, cEs, cPl, cLay, zup_q, zfill_r])
      have v4 : M' 102 96 = 0 := (by rw [f2]; simp)
      have v5 : ∀ i, M' 32 i = M 32 i := fun i => (by rw [f1 _ (by decide) (by decide) (by decide) (by decide) (by decide), hM1]; simp [cLv, cEs, cPl, cLay, zup_q, zfill_r])
      have v6 : ∀ i, M' 162 i = M 162 i := fun i => (by rw [f1 _ (by decide) (by decide) (by decide) (by decide) (by decide), hM1]; simp [cLv, cEs, cPl, cLay, zup_q, zfill_r])
      exact ⟨by omega, by omega, by omega, by omega, fun i => by rw [v5, v6, w5], fun i => by rw [v6]; exact w6 i⟩
    · have v1 : M' 0 11 = 0 := (by rw [f1 _ (by decide) (by decide) (by decide) (by decide) (by decide), hM1]; simp [cLv, cEs, cPl, cLay, zup_q, zfill_r])
      have v2 : M' 102 58 = 0 := (by rw [f2]; simp)
      refine ⟨by omega, by omega, fun w' hw' => ?_, fun w' hw' => by omega⟩
      have a1 : M' 132 w' = M 132 w' := (by rw [f1 _ (by decide) (by decide) (by decide) (by decide) (by decide), hM1]; simp [cLv, cEs, cPl, cLay, zup_q, zfill_r])
      have a2 : M' 133 w' = M 133 w' := (by rw [f1 _ (by decide) (by decide) (by decide) (by decide) (by decide), hM1]; simp [cLv, cEs, cPl, cLay, zup_q, zfill_r])
      have a3 : M' 134 w' = M 134 w' := (by rw [f1 _ (by decide) (by decide) (by decide) (by decide) (by decide), hM1]; simp [cLv, cEs, cPl, cLay, zup_q, zfill_r])
      have a4 : M' 135 w' = M 135 w' := (by rw [f1 _ (by decide) (by decide) (by decide) (by decide) (by decide), hM1]; simp [cLv, cEs, cPl, cLay, zup_q, zfill_r])
      have a5 : M' 136 w' = M 136 w' := (by rw [f1 _ (by decide) (by decide) (by decide) (by decide) (by decide), hM1]; simp [cLv, cEs, cPl, cLay, zup_q, zfill_r])
      have aw : M' (wid w') = M (wid w') := by
        funext j
        rcases wid_c (w := w') with e | e | e <;> rw [e] <;> exact (by rw [f1 _ (by decide) (by decide) (by decide) (by decide) (by decide), hM1]; simp [cLv, cEs, cPl, cLay, zup_q, zfill_r])
      rw [aw, a1, a2, a3, a4, a5]
      exact d3 w' hw'
    · have v1 : M' 44 6 = 0 := (by rw [f1 _ (by decide) (by decide) (by decide) (by decide) (by decide), hM1]; simp [cLv, cEs, cPl, cLay, zup_q, zfill_r])
      have v2 : M' 102 69 = 0 := (by rw [f2]; simp)
      have v3 : ∀ p, M' 45 p = M 45 p := fun p => (by rw [f1 _ (by decide) (by decide) (by decide) (by decide) (by decide), hM1]; simp [cLv, cEs, cPl, cLay, zup_q, zfill_r])
      exact ⟨by omega, by omega, fun p hp => by omega, fun p => by rw [v3]; exact p4 p⟩
    · have v1 : M' 44 13 = 0 := (by rw [f1 _ (by decide) (by decide) (by decide) (by decide) (by decide), hM1]; simp [cLv, cEs, cPl, cLay, zup_q, zfill_r])
      have v2 : M' 102 76 = 0 := (by rw [f2]; simp)
      exact ⟨by omega, by omega, fun p hp => by omega⟩
    · have v1 : M' 0 6 = M 0 6 := (by rw [f1 _ (by decide) (by decide) (by decide) (by decide) (by decide), hM1]; simp [cLv, cEs, cPl, cLay, zup_q, zfill_r])
      have v2 : M' 0 7 = 0 := (by rw [f1 _ (by decide) (by decide) (by decide) (by decide) (by decide), hM1]; simp [cLv, cEs, cPl, cLay, zup_q, zfill_r])
      unfold rKpt at h13 ⊢
      rw [v1, v2]
      exact ⟨h13.1, Or.inl rfl⟩
  have v4 : M' 102 96 = 0 := (by rw [f2]; simp)
  refine REL_mut h hA' (land_same hM1 f1 f2 (by rw [hM1]; simp only [cLv, cEs, cPl, cLay]; repeat (first | exact per_refl | refine zup_same rfl ?_ | refine zfill_same (fun _ => rfl) ?_)) (fun _ => ⟨rfl, rfl, rfl, rfl⟩) ⟨rfl, rfl, rfl, rfl, rfl, rfl, rfl, rfl⟩) (stp_0 hA' (all3 (p := fun x => M' x 4 = 0) (by rw [f1 _ (by decide) (by decide) (by decide) (by decide) (by decide), hM1]; simp [cLv, cEs, cPl, cLay, zup_q, zfill_r]) (by rw [f1 _ (by decide) (by decide) (by decide) (by decide) (by decide), hM1]; simp [cLv, cEs, cPl, cLay, zup_q, zfill_r]) (by rw [f1 _ (by decide) (by decide) (by decide) (by decide) (by decide), hM1]; simp [cLv, cEs, cPl, cLay, zup_q, zfill_r]))) ⟨(by rw [f1 _ (by decide) (by decide) (by decide) (by decide) (by decide), hM1]; simp [cLv, cEs, cPl, cLay, zup_q, zfill_r]), (all3 (p := fun x => M' x 10 = 0) (by rw [f1 _ (by decide) (by decide) (by decide) (by decide) (by decide), hM1]; simp [cLv, cEs, cPl, cLay, zup_q, zfill_r]) (by rw [f1 _ (by decide) (by decide) (by decide) (by decide) (by decide), hM1]; simp [cLv, cEs, cPl, cLay, zup_q, zfill_r]) (by rw [f1 _ (by decide) (by decide) (by decide) (by decide) (by decide), hM1]; simp [cLv, cEs, cPl, cLay, zup_q, zfill_r])), (allP (p := fun x => M' x 0 = 0) (by rw [f1 _ (by decide) (by decide) (by decide) (by decide) (by decide), hM1]; simp [cLv, cEs, cPl, cLay, zup_q, zfill_r]) (by rw [f1 _ (by decide) (by decide) (by decide) (by decide) (by decide), hM1]; simp [cLv, cEs, cPl, cLay, zup_q, zfill_r]) (by rw [f1 _ (by decide) (by decide) (by decide) (by decide) (by decide), hM1]; simp [cLv, cEs, cPl, cLay, zup_q, zfill_r]))⟩ (fun i hi => by omega)
set_option maxHeartbeats 4000000 in
theorem k_worldA {k : Nat} {M M' : zM} {s v r l w : Int} {a W : Nat} (h : REL k M) (hW : M 102 58 = (W : Int)) (ha : (W = 0 ∧ a = 69) ∨ (W = 1 ∧ a = 79) ∨ (W = 2 ∧ a = 89)) (g1 : 0 ≤ s ∧ s ≤ 99) (g2 : 0 ≤ v ∧ v < M 102 51 * M 102 52) (g3 : 1 ≤ r ∧ r ≤ 99) (g4 : 1 ≤ l ∧ l ≤ 12) (g5 : 1 ≤ w ∧ w ≤ 99)
    (hM' : M' = zup (zup (zup (zup (zup (zup (zup (cLv (zup (zup (zup (zup (zup (zup M a 0 s) a 1 v) a 2 r) a 3 l) a 4 w) 0 11 ((W : Int) + 1))) 102 2 0) 132 W s) 133 W v) 134 W r) 135 W l) 136 W w) 102 58 ((W : Int) + 1)) : REL (k + 1) M' := by
  obtain ⟨h0, h1, h2, h3, h4, h5, h6, h7, ⟨d1, d2, d3, d4⟩, h9, h10, h11, h12, h13⟩ := RelA_up h.1
  have key : RelA (k + 1) M' ∧ (∀ x j, dKn x j = true → M' x j = M x j) ∧ (∀ w : Nat, w < 3 → M' (fid w) 4 = 0) ∧ (M' 0 7 = 0 ∧ (∀ w : Nat, w < 3 → M' (fid w) 10 = 0) ∧ (∀ m : Nat, m < 3 → M' (plid m) 0 = 0)) ∧ rCnd M' := by
    rcases ha with ⟨rfl, rfl⟩ | ⟨rfl, rfl⟩ | ⟨rfl, rfl⟩
    all_goals
      refine ⟨⟨zFix_c (by rw [hM']; (try simp only [cAl, cEs, cPl, cLv]); repeat (first | exact per_refl | refine zup_same rfl ?_)) h0, rTape_c (by rw [hM']; (try simp only [cAl, cEs, cPl, cLv]); repeat (first | exact per_refl | refine zup_same rfl ?_)) h1, rFlt_c (by rw [hM']; (try simp only [cAl, cEs, cPl, cLv]); repeat (first | exact per_refl | refine zup_same rfl ?_)) h2, rNow_c (by rw [hM']; (try simp only [cAl, cEs, cPl, cLv]); repeat (first | exact per_refl | refine zup_same rfl ?_)) h3, rPst_c (by rw [hM']; (try simp only [cAl, cEs, cPl, cLv]); repeat (first | exact per_refl | refine zup_same rfl ?_)) h4, rRdg_c (by rw [hM']; (try simp only [cAl, cEs, cPl, cLv]); repeat (first | exact per_refl | refine zup_same rfl ?_)) h5, rLnd_c (by rw [hM']; (try simp only [cAl, cEs, cPl, cLv]); repeat (first | exact per_refl | refine zup_same rfl ?_)) h6, rWks_c (by rw [hM']; (try simp only [cAl, cEs, cPl, cLv]); repeat (first | exact per_refl | refine zup_same rfl ?_)) h7, ?_, rPlc_c (by rw [hM']; (try simp only [cAl, cEs, cPl, cLv]); repeat (first | exact per_refl | refine zup_same rfl ?_)) h9, rRds_c (by rw [hM']; (try simp only [cAl, cEs, cPl, cLv]); repeat (first | exact per_refl | refine zup_same rfl ?_)) h10, rWnd_c (by rw [hM']; (try simp only [cAl, cEs, cPl, cLv]); repeat (first | exact per_refl | refine zup_same rfl ?_)) h11, rBks_c (by rw [hM']; (try simp only [cAl, cEs, cPl, cLv]); repeat (first | exact per_refl | refine zup_same rfl ?_)) h12, ?_⟩, (by rw [hM']; (try simp only [cAl, cEs, cPl, cLv]); repeat (first | exact per_refl | refine zup_same rfl ?_)), (all3 (p := fun x => M' x 4 = 0) (by rw [hM']; simp [cAl, cEs, cPl, cLv, zup_q]) (by rw [hM']; simp [cAl, cEs, cPl, cLv, zup_q]) (by rw [hM']; simp [cAl, cEs, cPl, cLv, zup_q])), ⟨(by rw [hM']; simp [cAl, cEs, cPl, cLv, zup_q]), (all3 (p := fun x => M' x 10 = 0) (by rw [hM']; simp [cAl, cEs, cPl, cLv, zup_q]) (by rw [hM']; simp [cAl, cEs, cPl, cLv, zup_q]) (by rw [hM']; simp [cAl, cEs, cPl, cLv, zup_q])), (allP (p := fun x => M' x 0 = 0) (by rw [hM']; simp [cAl, cEs, cPl, cLv, zup_q]) (by rw [hM']; simp [cAl, cEs, cPl, cLv, zup_q]) (by rw [hM']; simp [cAl, cEs, cPl, cLv, zup_q]))⟩, cnd_k h.2.2.2.1 (by rw [hM']; simp [cAl, cEs, cPl, cLv, zup_q]) (by funext j; rw [hM']; simp [cLv, cEs, cPl, zup_q]) (by rw [hM']; simp [cLv, cEs, cPl, zup_q])⟩
      · have v13 : M' 102 51 * M' 102 52 = M 102 51 * M 102 52 := by rw [hM']; simp [cLv, cEs, cPl, zup_q]
        refine ⟨by rw [hM']; simp [cLv, cEs, cPl, zup_q], by rw [hM']; simp [cLv, cEs, cPl, zup_q], fun w' hw' => ?_, fun w' hw' => ?_⟩
        · have q := d3 w' hw'
          have c : w' = 0 ∨ w' = 1 ∨ w' = 2 := by omega
          rcases c with rfl | rfl | rfl <;> (simp only [wid] at q ⊢; rw [hM']; simp [cLv, cEs, cPl, zup_q]; try simpa using q)
        · have u : M' 102 58 = M 102 58 + 1 := by rw [hM', hW]; simp [cLv, cEs, cPl, zup_q]
          rw [u] at hw'
          have b1 : M' 132 w' = if w' = (M 102 58).toNat then s else M 132 w' := by rw [hM', hW]; simp [cLv, cEs, cPl, zup_q]
          have b2 : M' 133 w' = if w' = (M 102 58).toNat then v else M 133 w' := by rw [hM', hW]; simp [cLv, cEs, cPl, zup_q]
          have b3 : M' 134 w' = if w' = (M 102 58).toNat then r else M 134 w' := by rw [hM', hW]; simp [cLv, cEs, cPl, zup_q]
          have b4 : M' 135 w' = if w' = (M 102 58).toNat then l else M 135 w' := by rw [hM', hW]; simp [cLv, cEs, cPl, zup_q]
          have b5 : M' 136 w' = if w' = (M 102 58).toNat then w else M 136 w' := by rw [hM', hW]; simp [cLv, cEs, cPl, zup_q]
          rw [b1, b2, b3, b4, b5, v13]
          by_cases q : w' = (M 102 58).toNat
          · simp only [if_pos q]
            exact ⟨g1, g2, g3, g4, g5⟩
          · simp only [if_neg q]
            exact d4 w' (by omega)
      · have v1 : M' 0 6 = M 0 6 := (by rw [hM']; simp [cAl, cEs, cPl, cLv, zup_q])
        have v2 : M' 0 7 = 0 := (by rw [hM']; simp [cAl, cEs, cPl, cLv, zup_q])
        unfold rKpt at h13 ⊢
        rw [v1, v2]
        exact ⟨h13.1, Or.inl rfl⟩
  obtain ⟨k1, k2, k3, k4, k5⟩ := key
  exact REL_mut h k1 k2 (stp_0 k1 k3) k4 k5
