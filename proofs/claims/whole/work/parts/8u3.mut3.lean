/-! every call that changes something keeps the relation, on -/
def dBo (x j : Nat) : Bool := [113, 114, 115, 116, 117, 118, 119, 121, 122, 120, 112, 7, 8, 9, 10, 11, 14, 15, 16, 17, 18, 26, 27].contains x || (x == 102 && [32].contains j) || (x == 0 && [2].contains j)
theorem bo_b {M M' : zM} (f : ∀ x j, dBo x j = true → M' x j = M x j) : bEq M M' := by
  refine ⟨f _ _ rfl, fun y hy => ?_⟩
  rcases hy with hy | hy | hy | hy | hy | hy | hy | hy | hy | hy <;> rw [hy] <;> exact funext fun j => f _ j rfl
theorem bo_bok {k : Nat} {M M' : zM} (hA : RelA k M) (f : ∀ x j, dBo x j = true → M' x j = M x j) (h : rBok M) : rBok M' := by
  obtain ⟨bf, hbk, ff, -⟩ := bk_id hA
  refine rBok_e (bo_b f) (f _ _ rfl) (fun i i1 i2 => funext fun j => f _ j ?_) (fun j j1 j2 => by rw [f _ _ rfl]; exact h.1 j j1 j2) h
  rw [hbk, Int.toNat_natCast]
  have : i = 1 ∨ i = 2 ∨ i = 3 ∨ i = 4 ∨ i = 5 := by omega
  rcases ff with q | q <;> rw [q] <;> rcases this with e | e | e | e | e <;> rw [e] <;> rfl
theorem k_post {k : Nat} {M M' : zM} {n : Int} (h : REL k M) (g : M 102 4 < 8 ∧ 0 ≤ n ∧ n ≤ 3) (hM' : M' = zup (zup (zup (cAl (zup (zup M 21 (M 102 4).toNat n) 20 1 (M 102 4 + 1)) 0) 102 2 0) 104 (M 102 4).toNat n) 102 4 (M 102 4 + 1)) : REL (k + 1) M' := by
  obtain ⟨h0, h1, h2, h3, ⟨p1, p2, p3, p4⟩, h5, h6, h7, h8, h9, h10, h11, h12, h13⟩ := RelA_up h.1
  have rk : M' 0 6 = 0 := by
    have : M' 0 6 = (if 0 < M 0 6 then 0 else M 0 6) := (by rw [hM']; simp [cAl, cEs, cPl, cLv, zup_q])
    rw [this]
    have := h13.1.1
    split <;> omega
  refine REL_mut2 h ⟨zFix_c (by rw [hM']; (try simp only [cAl, cEs, cPl, cLv]); repeat (first | exact per_refl | refine zup_same rfl ?_)) h0, rTape_c (by rw [hM']; (try simp only [cAl, cEs, cPl, cLv]); repeat (first | exact per_refl | refine zup_same rfl ?_)) h1, rFlt_c (by rw [hM']; (try simp only [cAl, cEs, cPl, cLv]); repeat (first | exact per_refl | refine zup_same rfl ?_)) h2, rNow_c (by rw [hM']; (try simp only [cAl, cEs, cPl, cLv]); repeat (first | exact per_refl | refine zup_same rfl ?_)) h3, ?_, rRdg_c (by rw [hM']; (try simp only [cAl, cEs, cPl, cLv]); repeat (first | exact per_refl | refine zup_same rfl ?_)) h5, rLnd_c (by rw [hM']; (try simp only [cAl, cEs, cPl, cLv]); repeat (first | exact per_refl | refine zup_same rfl ?_)) h6, rWks_c (by rw [hM']; (try simp only [cAl, cEs, cPl, cLv]); repeat (first | exact per_refl | refine zup_same rfl ?_)) h7, rWld_c (by rw [hM']; (try simp only [cAl, cEs, cPl, cLv]); repeat (first | exact per_refl | refine zup_same rfl ?_)) h8, rPlc_c (by rw [hM']; (try simp only [cAl, cEs, cPl, cLv]); repeat (first | exact per_refl | refine zup_same rfl ?_)) h9, rRds_c (by rw [hM']; (try simp only [cAl, cEs, cPl, cLv]); repeat (first | exact per_refl | refine zup_same rfl ?_)) h10, rWnd_c (by rw [hM']; (try simp only [cAl, cEs, cPl, cLv]); repeat (first | exact per_refl | refine zup_same rfl ?_)) h11, rBks_c (by rw [hM']; (try simp only [cAl, cEs, cPl, cLv]); repeat (first | exact per_refl | refine zup_same rfl ?_)) h12, ?_⟩ (bo_bok h.1 (by rw [hM']; (try simp only [cAl, cEs, cPl, cLv]); repeat (first | exact per_refl | refine zup_same rfl ?_)) h.2.1.1.1) (fun i hi => by rw [rk] at hi; omega) (rStp_m h.1 (by rw [hM']; (try simp only [cAl, cEs, cPl, cLv]); repeat (first | exact per_refl | refine zup_same rfl ?_)) h.2.1.2.1) ⟨(by rw [hM']; simp [cAl, cEs, cPl, cLv, zup_q]), (all3 (p := fun x => M' x 10 = 0) (by rw [hM']; simp [cAl, cEs, cPl, cLv, zup_q]) (by rw [hM']; simp [cAl, cEs, cPl, cLv, zup_q]) (by rw [hM']; simp [cAl, cEs, cPl, cLv, zup_q])), (allP (p := fun x => M' x 0 = 0) (by rw [hM']; simp [cAl, cEs, cPl, cLv, zup_q]) (by rw [hM']; simp [cAl, cEs, cPl, cLv, zup_q]) (by rw [hM']; simp [cAl, cEs, cPl, cLv, zup_q]))⟩ (cnd_k h.2.2.2.1 (by rw [hM']; simp [cAl, cEs, cPl, cLv, zup_q]) (by funext j; rw [hM']; simp [cAl, cEs, cPl, zup_q]) (by rw [hM']; simp [cAl, cEs, cPl, zup_q])) (by funext j; rw [hM']; simp [cAl, cEs, cPl, zup_q])
  · have v1 : M' 20 1 = M 102 4 + 1 := (by rw [hM']; simp [cAl, cEs, cPl, cLv, zup_q])
    have v2 : M' 102 4 = M 102 4 + 1 := (by rw [hM']; simp [cAl, cEs, cPl, cLv, zup_q])
    have v3 : ∀ i, M' 21 i = if i = (M 102 4).toNat then n else M 21 i := fun i => (by rw [hM']; simp [cAl, cEs, cPl, cLv, zup_q])
    have v4 : ∀ i, M' 104 i = if i = (M 102 4).toNat then n else M 104 i := fun i => (by rw [hM']; simp [cAl, cEs, cPl, cLv, zup_q])
    refine ⟨by rw [v1, v2], by omega, fun i => ?_, fun i => ?_⟩
    · rw [v3, v4, p3]
    · rw [v4]
      have := p4 i
      split <;> omega
  · have v2 : M' 0 7 = 0 := (by rw [hM']; simp [cAl, cEs, cPl, cLv, zup_q])
    exact ⟨by omega, Or.inl v2⟩
theorem lix_lt {M M' : zM} (m : Nat) (h : ∀ i, i < m → M' 105 i = M 105 i ∧ M' 106 i = M 106 i) (a : Int) : lix M' m a = lix M m a := by
  induction m with
  | zero => rfl
  | succ m ih =>
    unfold lix
    rw [(h m (by omega)).1, (h m (by omega)).2, ih (fun i hi => h i (by omega))]
theorem kn_lt {M M' : zM} (k : Int) (m : Nat) (h : ∀ i, i < m → M' 105 i = M 105 i ∧ M' 106 i = M 106 i ∧ M' 108 i = M 108 i ∧ M' 109 i = M 109 i ∧ M' 107 i = M 107 i) (a : Nat) : kn M' k m a = kn M k m a := by
  induction m with
  | zero => rfl
  | succ m ih =>
    obtain ⟨e1, e2, e3, e4, e5⟩ := h m (by omega)
    unfold kn
    rw [e1, e2, e3, e4, e5, ih (fun i hi => h i (by omega))]
set_option maxHeartbeats 4000000 in
theorem k_read {k : Nat} {M M1 M' : zM} {p hr v g : Int} (h : REL k M) (hp : 0 ≤ p ∧ p < M 102 4) (hh : 0 ≤ hr ∧ hr ≤ M 102 3) (hv : g = 1 ∨ (-9999 ≤ v ∧ v ≤ 9999)) (hg : g = 0 ∨ g = 1) (h400 : M 102 6 < 400)
    (hM1 : M1 = cAl (zup (zup (zup (zup (zup M 24 (M 102 6).toNat (M 102 3)) 25 (M 102 6).toNat (if g = 1 then -10000 else v)) 23 (M 102 6).toNat (M 22 (p * 100 + hr).toNat)) 22 (p * 100 + hr).toNat (M 102 6)) 20 6 (M 102 6 + 1)) (M 102 3))
    (hM2 : M' = zup (zup (zup (zup (zup (zup (zup M1 102 2 0) 105 (M 102 6).toNat p) 106 (M 102 6).toNat hr) 107 (M 102 6).toNat (if g = 1 then 0 else v)) 109 (M 102 6).toNat g) 108 (M 102 6).toNat (M 102 3)) 102 6 (M 102 6 + 1)) : REL (k + 1) M' := by
  obtain ⟨h0, h1, h2, ⟨n1, n2⟩, ⟨p1, p2, -, -⟩, ⟨r1, ⟨r2, r3⟩, r4, r5, r6, r7⟩, h6, h7, h8, h9, h10, h11, h12, h13⟩ := RelA_up h.1
  have h4 := (RelA_up h.1).2.2.2.2.1
  have h3 := (RelA_up h.1).2.2.2.1
  have hM' := hM2
  rw [hM1] at hM'
  obtain ⟨N, hN⟩ : ∃ N : Nat, M 102 6 = (N : Int) := ⟨(M 102 6).toNat, by omega⟩
  obtain ⟨S, hS⟩ : ∃ S : Nat, p * 100 + hr = (S : Int) := ⟨(p * 100 + hr).toNat, by omega⟩
  rw [hN, hS, Int.toNat_natCast, Int.toNat_natCast] at hM'
  have v1 : M' 20 6 = (N : Int) + 1 := (by rw [hM']; simp [cAl, cEs, cPl, cLv, zup_q])
  have v2 : M' 102 6 = (N : Int) + 1 := (by rw [hM']; simp [cAl, cEs, cPl, cLv, zup_q])
  have v3 : ∀ i, M' 24 i = if i = N then M 102 3 else M 24 i := fun i => (by rw [hM']; simp [cAl, cEs, cPl, cLv, zup_q])
  have v4 : ∀ i, M' 25 i = if i = N then (if g = 1 then -10000 else v) else M 25 i := fun i => (by rw [hM']; simp [cAl, cEs, cPl, cLv, zup_q])
  have v5 : ∀ i, M' 23 i = if i = N then M 22 S else M 23 i := fun i => (by rw [hM']; simp [cAl, cEs, cPl, cLv, zup_q])
  have v6 : ∀ i, M' 22 i = if i = S then (N : Int) else M 22 i := fun i => (by rw [hM']; simp [cAl, cEs, cPl, cLv, zup_q])
  have v7 : ∀ i, M' 105 i = if i = N then p else M 105 i := fun i => (by rw [hM']; simp [cAl, cEs, cPl, cLv, zup_q])
  have v8 : ∀ i, M' 106 i = if i = N then hr else M 106 i := fun i => (by rw [hM']; simp [cAl, cEs, cPl, cLv, zup_q])
  have v9 : ∀ i, M' 107 i = if i = N then (if g = 1 then 0 else v) else M 107 i := fun i => (by rw [hM']; simp [cAl, cEs, cPl, cLv, zup_q])
  have v10 : ∀ i, M' 109 i = if i = N then g else M 109 i := fun i => (by rw [hM']; simp [cAl, cEs, cPl, cLv, zup_q])
  have v11 : ∀ i, M' 108 i = if i = N then M 102 3 else M 108 i := fun i => (by rw [hM']; simp [cAl, cEs, cPl, cLv, zup_q])
  have lx : ∀ m, m ≤ N → ∀ a : Int, lix M' m a = lix M m a := fun m hm a => lix_lt m (fun i hi => ⟨by rw [v7, if_neg (by omega)], by rw [v8, if_neg (by omega)]⟩) a
  have lxN : ∀ a : Int, lix M' (N + 1) a = if 100 * p + hr = a then (N : Int) else lix M N a := fun a => by
    show (if 100 * M' 105 N + M' 106 N = a then (N : Int) else lix M' N a) = _
    rw [v7, if_pos rfl, v8, if_pos rfl, lx N (Nat.le_refl _)]
  have rk : M' 0 6 = (if M 102 3 < M 0 6 then M 102 3 else M 0 6) := (by rw [hM']; simp [cAl, cEs, cPl, cLv, zup_q])
  have vq : ∀ i : Nat, (i : Int) < M 102 3 → vEq M M' i := fun i hi => by
    refine ⟨fun a => ?_, by funext j; rw [hM']; simp [cAl, cEs, cPl, zup_q], (by rw [hM']; simp [cAl, cEs, cPl, cLv, zup_q])⟩
    rw [v2, hN, Int.toNat_natCast, show ((N : Int) + 1).toNat = N + 1 by omega]
    show (if M' 108 N ≤ (i : Int) ∧ 100 * M' 105 N + M' 106 N = (a : Int) then (1 - M' 109 N, M' 107 N) else kn M' i N a) = _
    rw [if_neg (fun q => by rw [v11, if_pos rfl] at q; omega)]
    exact kn_lt i N (fun j hj => ⟨by rw [v7, if_neg (by omega)], by rw [v8, if_neg (by omega)], by rw [v11, if_neg (by omega)], by rw [v10, if_neg (by omega)], by rw [v9, if_neg (by omega)]⟩) a
  have bo : ∀ x j, dBo x j = true → M' x j = M x j := (by rw [hM']; (try simp only [cAl, cEs, cPl, cLv]); repeat (first | exact per_refl | refine zup_same rfl ?_))
  refine REL_mut2 h ⟨zFix_c (by rw [hM']; (try simp only [cAl, cEs, cPl, cLv]); repeat (first | exact per_refl | refine zup_same rfl ?_)) h0, rTape_c (by rw [hM']; (try simp only [cAl, cEs, cPl, cLv]); repeat (first | exact per_refl | refine zup_same rfl ?_)) h1, rFlt_c (by rw [hM']; (try simp only [cAl, cEs, cPl, cLv]); repeat (first | exact per_refl | refine zup_same rfl ?_)) h2, rNow_c (by rw [hM']; (try simp only [cAl, cEs, cPl, cLv]); repeat (first | exact per_refl | refine zup_same rfl ?_)) h3, rPst_c (by rw [hM']; (try simp only [cAl, cEs, cPl, cLv]); repeat (first | exact per_refl | refine zup_same rfl ?_)) h4, ?_, rLnd_c (by rw [hM']; (try simp only [cAl, cEs, cPl, cLv]); repeat (first | exact per_refl | refine zup_same rfl ?_)) h6, rWks_c (by rw [hM']; (try simp only [cAl, cEs, cPl, cLv]); repeat (first | exact per_refl | refine zup_same rfl ?_)) h7, rWld_c (by rw [hM']; (try simp only [cAl, cEs, cPl, cLv]); repeat (first | exact per_refl | refine zup_same rfl ?_)) h8, rPlc_c (by rw [hM']; (try simp only [cAl, cEs, cPl, cLv]); repeat (first | exact per_refl | refine zup_same rfl ?_)) h9, rRds_c (by rw [hM']; (try simp only [cAl, cEs, cPl, cLv]); repeat (first | exact per_refl | refine zup_same rfl ?_)) h10, rWnd_c (by rw [hM']; (try simp only [cAl, cEs, cPl, cLv]); repeat (first | exact per_refl | refine zup_same rfl ?_)) h11, rBks_c (by rw [hM']; (try simp only [cAl, cEs, cPl, cLv]); repeat (first | exact per_refl | refine zup_same rfl ?_)) h12, ?_⟩ (bo_bok h.1 bo h.2.1.1.1) (fun i hi => ?_) (rStp_m h.1 (by rw [hM']; (try simp only [cAl, cEs, cPl, cLv]); repeat (first | exact per_refl | refine zup_same rfl ?_)) h.2.1.2.1) ⟨(by rw [hM']; simp [cAl, cEs, cPl, cLv, zup_q]), (all3 (p := fun x => M' x 10 = 0) (by rw [hM']; simp [cAl, cEs, cPl, cLv, zup_q]) (by rw [hM']; simp [cAl, cEs, cPl, cLv, zup_q]) (by rw [hM']; simp [cAl, cEs, cPl, cLv, zup_q])), (allP (p := fun x => M' x 0 = 0) (by rw [hM']; simp [cAl, cEs, cPl, cLv, zup_q]) (by rw [hM']; simp [cAl, cEs, cPl, cLv, zup_q]) (by rw [hM']; simp [cAl, cEs, cPl, cLv, zup_q]))⟩ (cnd_k h.2.2.2.1 (by rw [hM']; simp [cAl, cEs, cPl, cLv, zup_q]) (by funext j; rw [hM']; simp [cAl, cEs, cPl, zup_q]) (by rw [hM']; simp [cAl, cEs, cPl, zup_q])) (by funext j; rw [hM']; simp [cAl, cEs, cPl, zup_q])
  · refine ⟨by omega, ⟨by omega, fun i => ?_⟩, fun i => ?_, fun i hi => ?_, fun i hi => ?_, fun j hj => ?_⟩
    · have := r3 i
      rw [v7, v8, v9, v10, v11]
      by_cases q : i = N
      · simp only [if_pos q]
        refine ⟨by omega, by omega, ?_, by omega, hg⟩
        rcases hv with q2 | q2
        · rw [if_pos q2]; omega
        · split <;> omega
      · simp only [if_neg q]
        exact this
    · rw [v3, v11, r4]
    · rw [v4, v10, v9]
      by_cases q : i = N
      · simp only [if_pos q]
        by_cases q2 : g = 1
        · rw [if_pos q2, if_pos q2]
        · rw [if_neg q2, if_neg q2, if_neg q2]
      · simp only [if_neg q]
        exact r5 i (by omega)
    · rw [v5, v7, v8]
      by_cases q : i = N
      · simp only [if_pos q]
        rw [q, lx N (Nat.le_refl _), r7 S (by omega), hN, Int.toNat_natCast]
        congr 1
        omega
      · simp only [if_neg q]
        rw [lx i (by omega)]
        exact r6 i (by omega)
    · rw [v6, v2, show ((N : Int) + 1).toNat = N + 1 by omega, lxN]
      by_cases q : j = S
      · rw [if_pos q, if_pos (by omega)]
      · rw [if_neg q, if_neg (by omega), r7 j hj, hN, Int.toNat_natCast]
  · have v12 : M' 0 7 = 0 := (by rw [hM']; simp [cAl, cEs, cPl, cLv, zup_q])
    unfold rKpt at h13 ⊢
    refine ⟨?_, Or.inl v12⟩
    rw [rk]
    split <;> omega
  · have v13 : M' 27 = M 27 := funext fun j => bo _ j rfl
    have hi1 : (i : Int) < M 102 3 ∧ (i : Int) < M 0 6 := by
      rw [rk] at hi
      split at hi <;> omega
    rw [v13, rawF_e (vq i hi1.1) (bo_b bo)]
    exact h.2.1.1.2.1 i hi1.2
theorem k_ground {k : Nat} {M M' : zM} {c hh n : Int} (h : REL k M) (g1 : 0 ≤ c ∧ c < M 102 51 * M 102 52) (g2 : 0 ≤ hh ∧ hh ≤ 999) (g3 : 0 ≤ n ∧ n ≤ 99) (hM' : M' = zup (zup (zup (cLv (zup (zup M 29 c.toNat hh) 30 c.toNat n)) 102 2 0) 128 c.toNat hh) 129 c.toNat n) : REL (k + 1) M' := by
  obtain ⟨h0, h1, h2, h3, h4, h5, ⟨l1, l2, l3, l4, l5, l6, l7, l8, l9, l10⟩, h7, h8, h9, h10, h11, h12, h13⟩ := RelA_up h.1
  have hA' : RelA (k + 1) M' := by
    refine ⟨zFix_c (by rw [hM']; (try simp only [cAl, cEs, cPl, cLv]); repeat (first | exact per_refl | refine zup_same rfl ?_)) h0, rTape_c (by rw [hM']; (try simp only [cAl, cEs, cPl, cLv]); repeat (first | exact per_refl | refine zup_same rfl ?_)) h1, rFlt_c (by rw [hM']; (try simp only [cAl, cEs, cPl, cLv]); repeat (first | exact per_refl | refine zup_same rfl ?_)) h2, rNow_c (by rw [hM']; (try simp only [cAl, cEs, cPl, cLv]); repeat (first | exact per_refl | refine zup_same rfl ?_)) h3, rPst_c (by rw [hM']; (try simp only [cAl, cEs, cPl, cLv]); repeat (first | exact per_refl | refine zup_same rfl ?_)) h4, rRdg_c (by rw [hM']; (try simp only [cAl, cEs, cPl, cLv]); repeat (first | exact per_refl | refine zup_same rfl ?_)) h5, ?_, rWks_c (by rw [hM']; (try simp only [cAl, cEs, cPl, cLv]); repeat (first | exact per_refl | refine zup_same rfl ?_)) h7, rWld_c (by rw [hM']; (try simp only [cAl, cEs, cPl, cLv]); repeat (first | exact per_refl | refine zup_same rfl ?_)) h8, rPlc_c (by rw [hM']; (try simp only [cAl, cEs, cPl, cLv]); repeat (first | exact per_refl | refine zup_same rfl ?_)) h9, rRds_c (by rw [hM']; (try simp only [cAl, cEs, cPl, cLv]); repeat (first | exact per_refl | refine zup_same rfl ?_)) h10, rWnd_c (by rw [hM']; (try simp only [cAl, cEs, cPl, cLv]); repeat (first | exact per_refl | refine zup_same rfl ?_)) h11, rBks_c (by rw [hM']; (try simp only [cAl, cEs, cPl, cLv]); repeat (first | exact per_refl | refine zup_same rfl ?_)) h12, ?_⟩
    · have v1 : M' 28 0 = M 28 0 := (by rw [hM']; simp [cAl, cEs, cPl, cLv, zup_q])
      have v2 : M' 28 1 = M 28 1 := (by rw [hM']; simp [cAl, cEs, cPl, cLv, zup_q])
      have v3 : M' 102 51 = M 102 51 := (by rw [hM']; simp [cAl, cEs, cPl, cLv, zup_q])
      have v4 : M' 102 52 = M 102 52 := (by rw [hM']; simp [cAl, cEs, cPl, cLv, zup_q])
      have v5 : ∀ i, M' 29 i = if i = c.toNat then hh else M 29 i := fun i => (by rw [hM']; simp [cAl, cEs, cPl, cLv, zup_q])
      have v6 : ∀ i, M' 30 i = if i = c.toNat then n else M 30 i := fun i => (by rw [hM']; simp [cAl, cEs, cPl, cLv, zup_q])
      have v7 : ∀ i, M' 31 i = M 31 i := fun i => (by rw [hM']; simp [cAl, cEs, cPl, cLv, zup_q])
      have v8 : ∀ i, M' 130 i = M 130 i := fun i => (by rw [hM']; simp [cAl, cEs, cPl, cLv, zup_q])
      have v9 : ∀ i, M' 131 i = M 131 i := fun i => (by rw [hM']; simp [cAl, cEs, cPl, cLv, zup_q])
      have v10 : ∀ i, M' 128 i = if i = c.toNat then hh else M 128 i := fun i => (by rw [hM']; simp [cAl, cEs, cPl, cLv, zup_q])
      have v11 : ∀ i, M' 129 i = if i = c.toNat then n else M 129 i := fun i => (by rw [hM']; simp [cAl, cEs, cPl, cLv, zup_q])
      refine ⟨by rw [v1, v3, l1], by rw [v2, v3, v4, l2], by rw [v3]; exact l3, by rw [v4]; exact l4, fun i => by rw [v5, v10, l5], fun i => by rw [v6, v11, l6], fun i => by rw [v7, v8, v9, l7], fun i => by rw [v8, v9]; exact l8 i, fun i => ?_, fun i => ?_⟩
      · rw [v10]
        have := l9 i
        split <;> omega
      · rw [v11]
        have := l10 i
        split <;> omega
    · have v1 : M' 0 6 = M 0 6 := (by rw [hM']; simp [cAl, cEs, cPl, cLv, zup_q])
      have v2 : M' 0 7 = 0 := (by rw [hM']; simp [cAl, cEs, cPl, cLv, zup_q])
      unfold rKpt at h13 ⊢
      rw [v1, v2]
      exact ⟨h13.1, Or.inl rfl⟩
  exact REL_mut h hA' (by rw [hM']; (try simp only [cAl, cEs, cPl, cLv]); repeat (first | exact per_refl | refine zup_same rfl ?_)) (stp_0 hA' (all3 (p := fun x => M' x 4 = 0) (by rw [hM']; simp [cAl, cEs, cPl, cLv, zup_q]) (by rw [hM']; simp [cAl, cEs, cPl, cLv, zup_q]) (by rw [hM']; simp [cAl, cEs, cPl, cLv, zup_q]))) ⟨(by rw [hM']; simp [cAl, cEs, cPl, cLv, zup_q]), (all3 (p := fun x => M' x 10 = 0) (by rw [hM']; simp [cAl, cEs, cPl, cLv, zup_q]) (by rw [hM']; simp [cAl, cEs, cPl, cLv, zup_q]) (by rw [hM']; simp [cAl, cEs, cPl, cLv, zup_q])), (allP (p := fun x => M' x 0 = 0) (by rw [hM']; simp [cAl, cEs, cPl, cLv, zup_q]) (by rw [hM']; simp [cAl, cEs, cPl, cLv, zup_q]) (by rw [hM']; simp [cAl, cEs, cPl, cLv, zup_q]))⟩ (cnd_k h.2.2.2.1 (by rw [hM']; simp [cAl, cEs, cPl, cLv, zup_q]) (by funext j; rw [hM']; simp [cLv, cEs, cPl, zup_q]) (by rw [hM']; simp [cLv, cEs, cPl, zup_q]))
theorem k_candidate {k : Nat} {M M' : zM} {c : Int} (h : REL k M) (g1 : M 102 96 < 6) (g2 : 0 ≤ c ∧ c < M 102 51 * M 102 52) (hM' : M' = zup (zup (zup (cPl (zup (zup M 32 (M 102 96).toNat c) 28 7 (M 102 96 + 1))) 102 2 0) 162 (M 102 96).toNat c) 102 96 (M 102 96 + 1)) : REL (k + 1) M' := by
  obtain ⟨h0, h1, h2, h3, h4, h5, h6, ⟨w1, w2, w3, w4, w5, w6⟩, h8, h9, h10, h11, h12, h13⟩ := RelA_up h.1
  have wt := (wt_r h6).1
  obtain ⟨hA, ⟨⟨c1, c2, c3⟩, c4, c5⟩, hp, hd, hw⟩ := id h
  have kn : ∀ x j, dKn x j = true → M' x j = M x j := (by rw [hM']; (try simp only [cAl, cEs, cPl, cLv]); repeat (first | exact per_refl | refine zup_same rfl ?_))
  have lv : ∀ x j, dLv x j = true → M' x j = M x j := (by rw [hM']; (try simp only [cAl, cEs, cPl, cLv]); repeat (first | exact per_refl | refine zup_same rfl ?_))
  have t1 : M' 145 = M 145 := by funext j; rw [hM']; simp [cPl, zup_q]
  have t2 : M' 146 = M 146 := by funext j; rw [hM']; simp [cPl, zup_q]
  have wf : wfF M' = wfF M := funext fun p => wfF_e (kn_b kn) t1 t2 p
  have nt : ntEq M M' := by
    refine ⟨(by rw [hM']; simp [cAl, cEs, cPl, cLv, zup_q]), (by rw [hM']; simp [cAl, cEs, cPl, cLv, zup_q]), fun y hy => ?_⟩
    rcases hy with hy | hy | hy | hy | hy | hy | hy | hy | hy | hy | hy <;> rw [hy] <;> (funext j; rw [hM']; simp [cPl, zup_q])
  have sc : ∀ w, scF M' w = scF M w := fun w => by unfold scF; rw [lv_m lv]
  have net : ∀ w, ntF M' w = ntF M w ∧ svF M' w = svF M w := fun w => by
    have P0 : 0 ≤ M 102 69 := by
      obtain ⟨p1, p2, -⟩ := h9
      omega
    obtain ⟨n1, n2, -⟩ := net_c (sc := scF M w) (sc' := scF M w) (wf := wfF M) (wf' := wfF M) (w := w) nt (rd_in hA) (fun _ _ _ => rfl) (fun _ _ _ => rfl) (fun _ _ _ => rfl)
    have e1 : ntF M' w = ntF M w := by
      unfold ntF
      rw [sc, wf]
      exact n1
    refine ⟨e1, ?_⟩
    unfold svF
    rw [e1, sc, wf, nt.1, n2 _ (by omega)]
  have apE : ∀ n, ap M' n = ap M n := fun n => by
    induction n with
    | zero => rfl
    | succ n ih => unfold ap; rw [ih, nt.2.2 142 (by simp), nt.2.2 144 (by simp)]
  have same : ∀ w : Nat, w < 3 → M' (fid w) 8 = M (fid w) 8 ∧ M' (fid w) 10 = M (fid w) 10 ∧ M' (fid w + 7) = M (fid w + 7) := fun w hw => by
    rcases fid3 hw with ⟨-, e⟩ | ⟨-, e⟩ | ⟨-, e⟩ <;> rw [e] <;> exact ⟨(by rw [hM']; simp [cAl, cEs, cPl, cLv, zup_q]), (by rw [hM']; simp [cAl, cEs, cPl, cLv, zup_q]), by funext j; rw [hM']; simp [cPl, zup_q]⟩
  have v1 : M' 0 6 = M 0 6 := (by rw [hM']; simp [cAl, cEs, cPl, cLv, zup_q])
  have v2 : M' 0 7 = M 0 7 := (by rw [hM']; simp [cAl, cEs, cPl, cLv, zup_q])
  have hA' : RelA (k + 1) M' := by
    refine ⟨zFix_c (by rw [hM']; (try simp only [cAl, cEs, cPl, cLv]); repeat (first | exact per_refl | refine zup_same rfl ?_)) h0, rTape_c (by rw [hM']; (try simp only [cAl, cEs, cPl, cLv]); repeat (first | exact per_refl | refine zup_same rfl ?_)) h1, rFlt_c (by rw [hM']; (try simp only [cAl, cEs, cPl, cLv]); repeat (first | exact per_refl | refine zup_same rfl ?_)) h2, rNow_c (by rw [hM']; (try simp only [cAl, cEs, cPl, cLv]); repeat (first | exact per_refl | refine zup_same rfl ?_)) h3, rPst_c (by rw [hM']; (try simp only [cAl, cEs, cPl, cLv]); repeat (first | exact per_refl | refine zup_same rfl ?_)) h4, rRdg_c (by rw [hM']; (try simp only [cAl, cEs, cPl, cLv]); repeat (first | exact per_refl | refine zup_same rfl ?_)) h5, rLnd_c (by rw [hM']; (try simp only [cAl, cEs, cPl, cLv]); repeat (first | exact per_refl | refine zup_same rfl ?_)) h6, ?_, rWld_c (by rw [hM']; (try simp only [cAl, cEs, cPl, cLv]); repeat (first | exact per_refl | refine zup_same rfl ?_)) h8, rPlc_c (by rw [hM']; (try simp only [cAl, cEs, cPl, cLv]); repeat (first | exact per_refl | refine zup_same rfl ?_)) h9, rRds_c (by rw [hM']; (try simp only [cAl, cEs, cPl, cLv]); repeat (first | exact per_refl | refine zup_same rfl ?_)) h10, rWnd_c (by rw [hM']; (try simp only [cAl, cEs, cPl, cLv]); repeat (first | exact per_refl | refine zup_same rfl ?_)) h11, rBks_c (by rw [hM']; (try simp only [cAl, cEs, cPl, cLv]); repeat (first | exact per_refl | refine zup_same rfl ?_)) h12, ?_⟩
    · have a1 : M' 28 5 = M 28 5 := (by rw [hM']; simp [cAl, cEs, cPl, cLv, zup_q])
      have a2 : M' 102 57 = M 102 57 := (by rw [hM']; simp [cAl, cEs, cPl, cLv, zup_q])
      have a3 : M' 28 7 = M 102 96 + 1 := (by rw [hM']; simp [cAl, cEs, cPl, cLv, zup_q])
      have a4 : M' 102 96 = M 102 96 + 1 := (by rw [hM']; simp [cAl, cEs, cPl, cLv, zup_q])
      have a5 : ∀ i, M' 32 i = if i = (M 102 96).toNat then c else M 32 i := fun i => (by rw [hM']; simp [cAl, cEs, cPl, cLv, zup_q])
      have a6 : ∀ i, M' 162 i = if i = (M 102 96).toNat then c else M 162 i := fun i => (by rw [hM']; simp [cAl, cEs, cPl, cLv, zup_q])
      refine ⟨by rw [a1, a2, w1], by rw [a2]; exact w2, by rw [a3, a4], by omega, fun i => by rw [a5, a6, w5], fun i => ?_⟩
      rw [a6]
      have := w6 i
      split <;> omega
    · unfold rKpt at h13 ⊢
      rw [v1, v2]
      exact h13
  refine ⟨hA', ⟨⟨kn_bok hA kn c1, kn_raw kn c2, rWrn_e (kn_b kn) t1 t2 nt.1 (nt.2.2 142 (by simp)) v2 (by funext j; rw [hM']; simp [cPl, zup_q]) c3⟩, rStp_m hA lv c4, fun w hw => ?_⟩, fun m hm => ?_, fun i hi => ?_, wds_e (by funext j; rw [hM']; simp [cPl, zup_q]) hw⟩
  · rw [lv 102 58 rfl] at hw
    have w3 : w < 3 := by
      obtain ⟨-, wr, -⟩ := h8
      omega
    obtain ⟨e1, e2, e3⟩ := same w w3
    obtain ⟨l1, l2⟩ := c5 w hw
    rw [e2]
    refine ⟨l1, fun q => ?_⟩
    have l2 := l2 q
    unfold ldOk at l2 ⊢
    rw [(net w).1, (net w).2, e1, e3, nt.1, apE]
    exact l2
  · have z : M' (plid m) 0 = 0 := (allP (p := fun x => M' x 0 = 0) (by rw [hM']; simp [cAl, cEs, cPl, cLv, zup_q]) (by rw [hM']; simp [cAl, cEs, cPl, cLv, zup_q]) (by rw [hM']; simp [cAl, cEs, cPl, cLv, zup_q])) m hm
    rw [z]
    exact ⟨Or.inl rfl, fun q => absurd q (by decide)⟩
  · have a4 : M' 102 96 = M 102 96 + 1 := (by rw [hM']; simp [cAl, cEs, cPl, cLv, zup_q])
    have a6 : ∀ i, M' 162 i = if i = (M 102 96).toNat then c else M 162 i := fun i => (by rw [hM']; simp [cAl, cEs, cPl, cLv, zup_q])
    have a7 : M' 102 51 * M' 102 52 = M 102 51 * M 102 52 := by rw [hM']; simp [cPl, zup_q]
    rw [a6, a7]
    split
    · exact g2
    · exact hd i (by omega)
