/-! the reader of rules: what keeps a line's state; values; signs that wait -/
def mSame (M M' : zM) (kn : Nat) : Prop := (M' 102 39 = M 102 39 ∧ M' 102 44 = M 102 44 ∧ M' 102 42 = M 102 42) ∧ (M' 119 = M 119 ∧ M' 125 = M 125 ∧ M' 123 = M 123 ∧ M' 124 = M 124) ∧ ∀ a : Nat, a < kn → M' 113 (64 + a) = M 113 (64 + a) ∧ M' 114 (64 + a) = M 114 (64 + a) ∧ M' 115 (64 + a) = M 115 (64 + a) ∧ M' 116 (64 + a) = M 116 (64 + a) ∧ M' 117 (64 + a) = M 117 (64 + a) ∧ M' 118 (64 + a) = M 118 (64 + a)
def vSame (f : Nat) (V V' : zM) : Prop := V' f 7 = V f 7 ∧ V' (f + 1) = V (f + 1) ∧ V' (f + 2) = V (f + 2) ∧ V' (f + 3) = V (f + 3) ∧ V' 1 7 = V 1 7 ∧ V' 4 = V 4
theorem sh_gb (V M : zM) (j : Nat) : shM V M 119 j = M 119 (64 + j) - 64 := sh_3 (Or.inr (Or.inr rfl)) j
theorem sh_kEq {V M V' M' : zM} {a : Nat} (h : M' 113 (64 + a) = M 113 (64 + a) ∧ M' 114 (64 + a) = M 114 (64 + a) ∧ M' 115 (64 + a) = M 115 (64 + a) ∧ M' 116 (64 + a) = M 116 (64 + a) ∧ M' 117 (64 + a) = M 117 (64 + a) ∧ M' 118 (64 + a) = M 118 (64 + a)) : kEq (shM V M) (shM V' M') a := by
  obtain ⟨h1, h2, h3, h4, h5, h6⟩ := h
  refine ⟨?_, ?_, ?_, ?_, ?_, ?_⟩
  · rw [sh_k (Or.inl rfl), sh_k (Or.inl rfl), h1]
  · rw [sh_3 (Or.inl rfl), sh_3 (Or.inl rfl), h2]
  · rw [sh_3 (Or.inr (Or.inl rfl)), sh_3 (Or.inr (Or.inl rfl)), h3]
  · rw [sh_k (Or.inr (Or.inl rfl)), sh_k (Or.inr (Or.inl rfl)), h4]
  · rw [sh_k (Or.inr (Or.inr (Or.inl rfl))), sh_k (Or.inr (Or.inr (Or.inl rfl))), h5]
  · rw [sh_k (Or.inr (Or.inr (Or.inr rfl))), sh_k (Or.inr (Or.inr (Or.inr rfl))), h6]
/-- what no order has touched agrees -/
theorem sh_agr {f : Nat} {V V' M M' : zM} {o kn : Nat} (hf : f = 6 ∨ f = 13) (hg : ∀ j : Nat, j < o → ∃ a : Nat, M 119 (64 + j) = 64 + (a : Int) ∧ a < kn) (g : ∀ j, j < o → M' 119 (64 + j) = M 119 (64 + j))
    (hr : ∀ j, j < o → V' (f + 1) j = V (f + 1) j ∧ V' (f + 2) j = V (f + 2) j ∧ V' (f + 3) j = V (f + 3) j)
    (hk : ∀ a : Nat, a < kn → M' 113 (64 + a) = M 113 (64 + a) ∧ M' 114 (64 + a) = M 114 (64 + a) ∧ M' 115 (64 + a) = M 115 (64 + a) ∧ M' 116 (64 + a) = M 116 (64 + a) ∧ M' 117 (64 + a) = M 117 (64 + a) ∧ M' 118 (64 + a) = M 118 (64 + a)) : agr (shM V M) (shM V' M') f o := fun j hj => by
  have c1 : ∀ x, x < 102 → shM V M x = V x := fun x hx => sh_c hx
  have c2 : ∀ x, x < 102 → shM V' M' x = V' x := fun x hx => sh_c hx
  obtain ⟨r1, r2, r3⟩ := hr j hj
  refine ⟨⟨?_, ?_, ?_, ?_⟩, fun b hb => ?_⟩
  · rw [sh_gb, sh_gb, g j hj]
  · rw [c2 _ (by omega), c1 _ (by omega), r1]
  · rw [c2 _ (by omega), c1 _ (by omega), r2]
  · rw [c2 _ (by omega), c1 _ (by omega), r3]
  · rw [sh_gb] at hb
    obtain ⟨a, a1, a2⟩ := hg j hj
    exact sh_kEq (hk b (by omega))
theorem e_g {f : Nat} {V M V' M' : zM} {o0 c w kn kn' vl : Nat} {s : List Nat} (hf : f = 6 ∨ f = 13) (h : eInv f V M o0 c w kn vl s) (hk : kn ≤ kn' ∧ kn' ≤ 64) (m : mSame M M' kn) (v : vSame f V V') : eInv f V' M' o0 c w kn' vl s ∧ agr (shM V M) (shM V' M') f (o0 + c) := by
  obtain ⟨⟨i1, i2⟩, i3, i4, i5, ⟨i6, i7, i8⟩, ⟨i9, i10⟩, i11, i12, i13⟩ := h
  obtain ⟨⟨m1, m2, m3⟩, ⟨m4, m5, m6, m7⟩, m8⟩ := m
  obtain ⟨v1, v2, v3, v4, v5, v6⟩ := v
  have ag : agr (shM V M) (shM V' M') f (o0 + c) := sh_agr hf i4 (fun j hj => by rw [m4]) (fun j hj => by rw [v2, v3, v4]; exact ⟨rfl, rfl, rfl⟩) m8
  refine ⟨⟨⟨by rw [m1]; exact i1, by rw [v1]; exact i2⟩, hk.2, fun j hj => ?_, chn_g ag c (Nat.le_refl _) s i5, ⟨by rw [m2]; exact i6, by rw [m5]; exact i7, by rw [m6]; exact i8⟩, ⟨by rw [m3]; exact i9, by rw [v5]; exact i10⟩, fun i hi => by rw [v6, m6]; exact i11 i hi, fun i hi q => ?_, by rw [m6]; omega⟩, ag⟩
  · rw [m4]
    obtain ⟨a, a1, a2⟩ := i4 j hj
    exact ⟨a, a1, by omega⟩
  · rw [m6] at q
    obtain ⟨b, b1, b2, b3, b4, b5⟩ := i12 i hi q
    rw [m7, m6, m4]
    exact ⟨b, b1, by omega, by rw [(m8 b b2).1]; exact b3, b4, b5⟩
/-- a value is done -/
theorem e_val {f : Nat} {V M V' M' : zM} {o0 c w kn a : Nat} {s : List Nat} (hf : f = 6 ∨ f = 13) (h : eInv f V M o0 c w kn 0 s) (ha : a < kn) (hnd : ∀ j : Nat, j < o0 + c → M 119 (64 + j) ≠ 64 + (a : Int)) (hnw : ∀ i : Nat, i < w → M 123 i ≠ 100 → M 124 i ≠ 64 + (a : Int)) (hnn : nwc (M 123) w + (o0 + c) + 1 ≤ kn)
    (hM : M' = doM M (o0 + c) s.length (64 + (a : Int))) (hr : ∀ j, j < o0 + c → V' (f + 1) j = V (f + 1) j ∧ V' (f + 2) j = V (f + 2) j ∧ V' (f + 3) j = V (f + 3) j) (hs : V' f 7 = ((o0 + c : Nat) : Int) + 1) (hwc : V' 1 7 = V 1 7) (hwt : V' 4 = V 4)
    (hst : stp1 (shM V' M') a s (a :: s)) (hop : opRel (shM V' M') f (o0 + c) a) : eInv f V' M' o0 (c + 1) w kn 1 (a :: s) ∧ agr (shM V M) (shM V' M') f (o0 + c) := by
  obtain ⟨⟨i1, i2⟩, i3, i4, i5, ⟨i6, i7, i8⟩, ⟨i9, i10⟩, i11, i12, i13⟩ := h
  have gb : ∀ j, M' 119 j = if j = 64 + (o0 + c) then 64 + (a : Int) else M 119 j := fun j => by rw [hM]; unfold doM; simp [zup_q]
  have hd : ∀ j, M' 125 j = if j = s.length then 64 + (a : Int) else M 125 j := fun j => by rw [hM]; unfold doM; simp [zup_q]
  have or' : M' 102 39 = ((o0 + c : Nat) : Int) + 1 := by rw [hM]; unfold doM; simp [zup_q]
  have hl' : M' 102 44 = (s.length : Int) + 1 := by rw [hM]; unfold doM; simp [zup_q]
  have ws' : M' 102 42 = M 102 42 := by rw [hM]; unfold doM; simp [zup_q]
  have oth : ∀ x, x ≠ 102 → x ≠ 119 → x ≠ 125 → M' x = M x := fun x x1 x2 x3 => by
    rw [hM]
    unfold doM
    rw [zup_ne _ _ _ x1, zup_ne _ _ _ x3, zup_ne _ _ _ x1, zup_ne _ _ _ x2]
  have wt : M' 123 = M 123 := oth _ (by decide) (by decide) (by decide)
  have wo : M' 124 = M 124 := oth _ (by decide) (by decide) (by decide)
  have k1 : M' 113 = M 113 := oth _ (by decide) (by decide) (by decide)
  have k2 : M' 114 = M 114 := oth _ (by decide) (by decide) (by decide)
  have k3 : M' 115 = M 115 := oth _ (by decide) (by decide) (by decide)
  have k4 : M' 116 = M 116 := oth _ (by decide) (by decide) (by decide)
  have k5 : M' 117 = M 117 := oth _ (by decide) (by decide) (by decide)
  have k6 : M' 118 = M 118 := oth _ (by decide) (by decide) (by decide)
  have ag : agr (shM V M) (shM V' M') f (o0 + c) := sh_agr hf i4 (fun j hj => by rw [gb, if_neg (by omega)]) hr (fun b hb => by rw [k1, k2, k3, k4, k5, k6]; exact ⟨rfl, rfl, rfl, rfl, rfl, rfl⟩)
  obtain ⟨l1, l2⟩ := chn_l c s i5
  refine ⟨⟨⟨by rw [or']; omega, by rw [hs]; omega⟩, i3, fun j hj => ?_, ⟨a, s, by rw [sh_gb, gb, if_pos rfl]; omega, by omega, hst, hop, l1, chn_g ag c (Nat.le_refl _) s i5⟩, ⟨hl', ⟨by rw [hd, if_pos rfl], hd_g s (fun i hi => by rw [hd, if_neg (by omega)]) i7⟩, by rw [wt]; show s.length + 1 = _; omega⟩, ⟨by rw [ws']; exact i9, by rw [hwc]; exact i10⟩, fun i hi => by rw [hwt, wt]; exact i11 i hi, fun i hi q => ?_, by rw [wt]; omega⟩, ag⟩
  · rw [gb]
    by_cases q : 64 + j = 64 + (o0 + c)
    · rw [if_pos q]
      exact ⟨a, rfl, ha⟩
    · rw [if_neg q]
      exact i4 j (by omega)
  · rw [wt] at q
    obtain ⟨b, b1, b2, b3, b4, b5⟩ := i12 i hi q
    rw [wo, k1, wt]
    refine ⟨b, b1, b2, b3, fun j hj => ?_, b5⟩
    rw [gb]
    by_cases q2 : 64 + j = 64 + (o0 + c)
    · rw [if_pos q2]
      intro q3
      exact hnw i hi q (by omega)
    · rw [if_neg q2]
      exact b4 j (by omega)
/-- a sign waits -/
theorem e_wait {f : Nat} {V M V' M' : zM} {o0 c w kn vl vl' : Nat} {s : List Nat} {t k at' : Int} (hf : f = 6 ∨ f = 13) (h : eInv f V M o0 c w kn vl s) (ht : wtR t k) (hM : M' = wfM M w k at')
    (hv : V' f 7 = V f 7 ∧ V' (f + 1) = V (f + 1) ∧ V' (f + 2) = V (f + 2) ∧ V' (f + 3) = V (f + 3)) (hwc : V' 1 7 = (w : Int) + 1) (hwt : ∀ j, V' 4 j = if j = w then t else V 4 j)
    (hk : k ≠ 100 → ∃ a : Nat, at' = 64 + (a : Int) ∧ a < kn ∧ M 113 (64 + a) = k ∧ (∀ j : Nat, j < o0 + c → M 119 (64 + j) ≠ 64 + (a : Int)) ∧ ∀ i' : Nat, i' < w → M 123 i' ≠ 100 → M 124 i' ≠ 64 + (a : Int))
    (hn : nwc (M 123) w + (if k = 100 then 0 else 1) + (o0 + c) ≤ kn) (hvl : vl = (if k = 100 ∨ k = 11 ∨ k = 12 then 0 else 1) + vl') : eInv f V' M' o0 c (w + 1) kn vl' s ∧ agr (shM V M) (shM V' M') f (o0 + c) := by
  obtain ⟨⟨i1, i2⟩, i3, i4, i5, ⟨i6, i7, i8⟩, ⟨i9, i10⟩, i11, i12, i13⟩ := h
  obtain ⟨v1, v2, v3, v4⟩ := hv
  have wt : ∀ j, M' 123 j = if j = w then k else M 123 j := fun j => by rw [hM]; unfold wfM; simp [zup_q]
  have wo : ∀ j, M' 124 j = if j = w then at' else M 124 j := fun j => by rw [hM]; unfold wfM; simp [zup_q]
  have ws' : M' 102 42 = (w : Int) + 1 := by rw [hM]; unfold wfM; simp [zup_q]
  have s1 : M' 102 39 = M 102 39 := by rw [hM]; unfold wfM; simp [zup_q]
  have s2 : M' 102 44 = M 102 44 := by rw [hM]; unfold wfM; simp [zup_q]
  have oth : ∀ x, x ≠ 102 → x ≠ 123 → x ≠ 124 → M' x = M x := fun x x1 x2 x3 => by
    rw [hM]
    unfold wfM
    rw [zup_ne _ _ _ x1, zup_ne _ _ _ x3, zup_ne _ _ _ x2]
  have k0 : M' 119 = M 119 := oth _ (by decide) (by decide) (by decide)
  have kh : M' 125 = M 125 := oth _ (by decide) (by decide) (by decide)
  have k1 : M' 113 = M 113 := oth _ (by decide) (by decide) (by decide)
  have k2 : M' 114 = M 114 := oth _ (by decide) (by decide) (by decide)
  have k3 : M' 115 = M 115 := oth _ (by decide) (by decide) (by decide)
  have k4 : M' 116 = M 116 := oth _ (by decide) (by decide) (by decide)
  have k5 : M' 117 = M 117 := oth _ (by decide) (by decide) (by decide)
  have k6 : M' 118 = M 118 := oth _ (by decide) (by decide) (by decide)
  have ag : agr (shM V M) (shM V' M') f (o0 + c) := sh_agr hf i4 (fun j hj => by rw [k0]) (fun j hj => by rw [v2, v3, v4]; exact ⟨rfl, rfl, rfl⟩) (fun b hb => by rw [k1, k2, k3, k4, k5, k6]; exact ⟨rfl, rfl, rfl, rfl, rfl, rfl⟩)
  obtain ⟨n1, n2⟩ := nwc_g (K := M 123) (K' := M' 123) w (fun i hi => by rw [wt, if_neg (by omega)])
  have n3 : nwc (M' 123) (w + 1) = nwc (M 123) w + (if k = 100 then 0 else 1) := by
    show nwc (M' 123) w + (if M' 123 w = 100 then 0 else 1) = _
    rw [n1, wt, if_pos rfl]
  have n4 : bnc (M' 123) (w + 1) = bnc (M 123) w + (if k = 100 ∨ k = 11 ∨ k = 12 then 0 else 1) := by
    show bnc (M' 123) w + (if M' 123 w = 100 ∨ M' 123 w = 11 ∨ M' 123 w = 12 then 0 else 1) = _
    rw [n2, wt, if_pos rfl]
  refine ⟨⟨⟨by rw [s1]; exact i1, by rw [v1]; exact i2⟩, i3, fun j hj => by rw [k0]; exact i4 j hj, chn_g ag c (Nat.le_refl _) s i5, ⟨by rw [s2]; exact i6, by rw [kh]; exact i7, by rw [n4, i8, hvl]; omega⟩, ⟨by rw [ws']; omega, by rw [hwc]; omega⟩, fun i hi => ?_, fun i hi q => ?_, by rw [n3]; exact hn⟩, ag⟩
  · rw [hwt, wt]
    by_cases q : i = w
    · rw [if_pos q, if_pos q]; exact ht
    · rw [if_neg q, if_neg q]; exact i11 i (by omega)
  · rw [wt] at q
    rw [wo, wt, k0, k1]
    by_cases q2 : i = w
    · rw [if_pos q2] at q
      rw [if_pos q2, if_pos q2]
      obtain ⟨a, a1, a2, a3, a4, a5⟩ := hk q
      refine ⟨a, a1, a2, a3, a4, fun i' hi' q3 => ?_⟩
      rw [wt, if_neg (by omega)] at q3
      rw [wo, if_neg (by omega)]
      exact a5 i' (by omega) q3
    · rw [if_neg q2] at q
      rw [if_neg q2, if_neg q2]
      obtain ⟨a, a1, a2, a3, a4, a5⟩ := i12 i (by omega) q
      refine ⟨a, a1, a2, a3, a4, fun i' hi' q3 => ?_⟩
      rw [wt, if_neg (by omega)] at q3
      rw [wo, if_neg (by omega)]
      exact a5 i' (by omega) q3
