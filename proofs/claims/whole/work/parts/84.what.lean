/-! what a window is worth, of both -/
def mkM (M : zM) (k : Int) : zM := fun x => if x = 110 then (fun a => (kn M k (M 102 6).toNat a).1) else if x = 111 then (fun a => (kn M k (M 102 6).toNat a).2) else M x
def whatF (M : zM) (k w ov n h0 : Int) : Int := wWhat w (wH (mkM M k) ov (if h0 - n + 1 < 0 then 0 else h0 - n + 1) (M 102 4).toNat (h0 + 1 - (if h0 - n + 1 < 0 then 0 else h0 - n + 1)).toNat)
theorem mkM_h (M : zM) (k : Int) (a : Nat) : mkM M k 110 a = (kn M k (M 102 6).toNat a).1 := rfl
theorem mkM_v (M : zM) (k : Int) (a : Nat) : mkM M k 111 a = (kn M k (M 102 6).toNat a).2 := rfl
theorem mkM_k (M : zM) (k : Int) : mkM M k 104 = M 104 := rfl
theorem wP_c {M M' : zM} {ov : Int} {hr np : Nat} (hk : M' 104 = M 104) (hr100 : hr < 100) (hnp : np ≤ 8) (h1 : ∀ a, a < 800 → M' 110 a = M 110 a) (h2 : ∀ a, a < 800 → ¬ M 110 a = 0 → M' 111 a = M 111 a) (s : Int × Int × Int × Int × Int × Int) (n : Nat) (hn : n ≤ np) : wP M' ov (hr : Int) s n = wP M ov (hr : Int) s n := by
  induction n with
  | zero => rfl
  | succ n ih =>
    have ih := ih (by omega)
    have ix : (100 * (n : Int) + (hr : Int)).toNat = 100 * n + hr := by omega
    unfold wP
    rw [ih, hk, ix, h1 _ (by omega)]
    by_cases k : M 110 (100 * n + hr) = 0
    · simp only [k, if_true]
    · rw [h2 _ (by omega) k]
theorem wH_c {M M' : zM} {ov : Int} {low np : Nat} (hk : M' 104 = M 104) (hnp : np ≤ 8) (h1 : ∀ a, a < 800 → M' 110 a = M 110 a) (h2 : ∀ a, a < 800 → ¬ M 110 a = 0 → M' 111 a = M 111 a) (m : Nat) (hl : low + m ≤ 100) : wH M' ov (low : Int) np m = wH M ov (low : Int) np m := by
  induction m with
  | zero => rfl
  | succ m ih =>
    have ih := ih (by omega)
    unfold wH
    rw [ih, show (low : Int) + (m : Int) = ((low + m : Nat) : Int) by omega]
    simp only [wP_c hk (show low + m < 100 by omega) hnp h1 h2 _ np (Nat.le_refl _)]
theorem low_m {h0 n : Int} (hn : 1 ≤ n ∧ n ≤ 48) (hh : 0 ≤ h0 ∧ h0 ≤ 99) : ∃ low m : Nat, (low : Int) = (if h0 - n + 1 < 0 then 0 else h0 - n + 1) ∧ (m : Int) = h0 + 1 - low ∧ low + m ≤ 100 := by
  refine ⟨(if h0 - n + 1 < 0 then 0 else h0 - n + 1).toNat, (h0 + 1 - (if h0 - n + 1 < 0 then 0 else h0 - n + 1)).toNat, ?_, ?_, ?_⟩ <;> split <;> omega
theorem whatF_lm {M : zM} {k w ov n h0 : Int} {low m : Nat} (h1 : (low : Int) = (if h0 - n + 1 < 0 then 0 else h0 - n + 1)) (h2 : (m : Int) = h0 + 1 - low) : whatF M k w ov n h0 = wWhat w (wH (mkM M k) ov (low : Int) (M 102 4).toNat m) := by
  unfold whatF
  rw [← h1, ← h2, Int.toNat_natCast]
/-- the reference's arrays hold what is known in hour k -/
def knAt (M M1 : zM) (k : Int) : Prop := (∀ i, i < 800 → M1 110 i = (kn M k (M 102 6).toNat i).1) ∧ (∀ i, i < 800 → M1 110 i = 1 → M1 111 i = (kn M k (M 102 6).toNat i).2)
theorem r_whatV {E : zE} {M M1 : zM} {Q : Int → zM → Prop} {k w ov n h0 : Int} (hR : rdOk M) (hP : rPst M) (hK : knAt M M1 k) (e1 : M1 104 = M 104) (e2 : M1 102 4 = M 102 4) (hw : zR w) (ho : zR ov) (hn : 1 ≤ n ∧ n ≤ 48) (hh : 0 ≤ h0 ∧ h0 ≤ 99) (h : Q (whatF M k w ov n h0) M1) : zP E mX12_whatValue [.inr (.inr 102), .inl w, .inl ov, .inl n, .inl h0] M1 Q := by
  obtain ⟨p1, p2, p3, p4⟩ := hP
  obtain ⟨k1, k2⟩ := hK
  have one : ∀ i, i < 800 → ¬ M1 110 i = 0 → M1 110 i = 1 := fun i hi q => by
    rw [k1 i hi] at q ⊢
    exact (kn_r hR k _ i).1.resolve_left q
  refine r_whatValue hw ho hn hh (by rw [e2]; exact p2) (fun i => by rw [e1]; have := p4 i; unfold zR; omega) (fun i hi => by rw [k1 i hi]; exact (kn_r hR k _ i).1) (fun i hi q => by rw [k2 i hi (one i hi q)]; exact (kn_r hR k _ i).2) ?_
  obtain ⟨low, m, l1, l2, l3⟩ := low_m hn hh
  rw [whatF_lm l1 l2] at h
  rw [← l1, ← l2, e2, Int.toNat_natCast, wH_c (M := mkM M k) (by rw [e1]; rfl) (by omega) (fun a ha => by rw [k1 a ha]; rfl) (fun a ha q => by rw [mkM_h] at q; rw [k2 a ha (by rw [k1 a ha]; exact (kn_r hR k _ a).1.resolve_left q)]; rfl) m l3]
  exact h
theorem vs_k {M : zM} (hR : rdOk M) (k : Int) (np : Nat) : vsOf (mkM M k) (kV M k) np := by
  intro p h hp hh
  rw [mkM_h, mkM_v]
  unfold kV knV
  by_cases q : (kn M k (M 102 6).toNat (100 * p + h)).1 = 0
  · rw [if_pos q]
    exact Or.inl ⟨q, rfl⟩
  · rw [if_neg q]
    have := (kn_r hR k (M 102 6).toNat (100 * p + h)).2
    exact Or.inr ⟨q, rfl, by omega⟩
theorem c_whatV {E : zE} {M : zM} {Q : Int → zM → Prop} {w ov n h0 k : Int} (hR : rRdg M) (hP : rPst M) (hT : ∀ j, 3 ≤ j → j ≤ 8 → zR (M 26 j)) (hw : 5 ≤ w ∧ w ≤ 11) (ho : zR ov) (hn : 1 ≤ n ∧ n ≤ 48) (hh : 0 ≤ h0 ∧ h0 ≤ 99) (hk : zR k)
    (h : ∀ M' : zM, (∀ x, x ≠ 26 → M' x = M x) → (∀ j, 3 ≤ j → j ≤ 8 → zR (M' 26 j)) → Q (whatF M k w ov n h0) M') : zP E mX5_overWindow [.inr (.inr 20), .inl w, .inl ov, .inl n, .inl h0, .inl k] M Q := by
  refine c_overWindow hR hP hT hw ho hn hh hk ?_
  intro M' f1 f2 low m l1 l2 l3 t t1 t2 t3 t4
  rw [win_eq hw (fun p h => (knV_r hR.2.1 k _).1) (mkM_k M k) (vs_k hR.2.1 k _) l3 t1 t2 t3 t4, ← whatF_lm l1 l2]
  exact h M' f1 f2
theorem whatF_r {M : zM} {k w ov n h0 : Int} (hR : rdOk M) (hp : 0 ≤ M 102 4 ∧ M 102 4 ≤ 8) (hw : 5 ≤ w ∧ w ≤ 11) (hn : 1 ≤ n ∧ n ≤ 48) (hh : 0 ≤ h0 ∧ h0 ≤ 99) : whatF M k w ov n h0 = NV ∨ (-8000000 ≤ whatF M k w ov n h0 ∧ whatF M k w ov n h0 ≤ 8000000) := by
  obtain ⟨low, m, l1, l2, l3⟩ := low_m hn hh
  rw [whatF_lm l1 l2]
  have Vr : ∀ p h, -10000 ≤ kV M k p h ∧ kV M k p h ≤ 9999 := fun p h => knV_r hR k _
  obtain ⟨i1, i2, i3, i4, i5, i6, i7⟩ := wH_ok (ov := ov) (low := low) (fun p h => (Vr p h).1) (vs_k hR k (M 102 4).toNat) m l3
  have b0 := cs_bd (g := vl) (K := M 104) (ov := ov) (Or.inl rfl) Vr low m (M 102 4).toNat (by omega) (by omega)
  have b1 := cs_bd (g := prs) (K := M 104) (ov := ov) (Or.inr (Or.inl rfl)) Vr low m (M 102 4).toNat (by omega) (by omega)
  have b2 := cs_bd (g := abz) (K := M 104) (ov := ov) (Or.inr (Or.inr rfl)) Vr low m (M 102 4).toNat (by omega) (by omega)
  rw [csum_w] at b0 b1 b2
  rw [mkM_k] at i1 i2 i3
  generalize wH (mkM M k) ov (low : Int) (M 102 4).toNat m = u at *
  have m4 : u.2.2.2.1 = NV ∨ (-8000000 ≤ u.2.2.2.1 ∧ u.2.2.2.1 ≤ 8000000) := by
    rcases i4 with ⟨-, q⟩ | ⟨⟨p, h, -, -, c⟩, -⟩
    · exact Or.inl q
    · have := Vr p h; exact Or.inr (by omega)
  have m5 : u.2.2.2.2.1 = NV ∨ (-8000000 ≤ u.2.2.2.2.1 ∧ u.2.2.2.2.1 ≤ 8000000) := by
    rcases i5 with ⟨-, q⟩ | ⟨⟨p, h, -, -, c⟩, -⟩
    · exact Or.inl q
    · have := Vr p h; exact Or.inr (by omega)
  have m6 : u.2.2.2.2.2.1 = NV ∨ (-8000000 ≤ u.2.2.2.2.2.1 ∧ u.2.2.2.2.2.1 ≤ 8000000) := by
    rcases i6 with ⟨-, q⟩ | ⟨h, ⟨p, -, -, c⟩, -⟩
    · exact Or.inl q
    · have := Vr p h; exact Or.inr (by omega)
  have m7 : u.2.2.2.2.2.2 = NV ∨ (-8000000 ≤ u.2.2.2.2.2.2 ∧ u.2.2.2.2.2.2 ≤ 8000000) := by
    rcases i7 with ⟨-, q⟩ | ⟨h, ⟨p, -, -, c⟩, -⟩
    · exact Or.inl q
    · have := Vr p h; exact Or.inr (by omega)
  unfold wWhat
  split
  · exact m7
  · split
    · exact m6
    · split
      · rw [i3]; exact Or.inr b0
      · split
        · exact m4
        · split
          · exact m5
          · split
            · rw [i1]; exact Or.inr b1
            · rw [i2]; exact Or.inr b2
def okb (x : Int) : Prop := x = NV ∨ (-1000000000000 ≤ x ∧ x ≤ 1000000000000)
theorem okb_t (p : Prop) [Decidable p] (x y : Int) (hx : x = 0 ∨ x = 1) (hy : y = 0 ∨ y = 1) : okb (if p then x else y) := by
  by_cases q : p
  · rw [if_pos q]; exact Or.inr (by omega)
  · rw [if_neg q]; exact Or.inr (by omega)
theorem okb_b (x : Int) : okb (if 1000000000000 < absI x then NV else x) := by
  by_cases q : 1000000000000 < absI x
  · rw [if_pos q]; exact Or.inl rfl
  · rw [if_neg q]
    unfold absI at q
    by_cases q2 : x < 0
    · rw [if_pos q2] at q; exact Or.inr (by omega)
    · rw [if_neg q2] at q; exact Or.inr (by omega)
theorem okb_m {a b : Int} (hb : -1000000000000 ≤ b ∧ b ≤ 1000000000000) : okb (if a ≠ 0 ∧ Int.tdiv 1000000000000 (absI a) < absI b then NV else a * b) := by
  by_cases q : a ≠ 0 ∧ Int.tdiv 1000000000000 (absI a) < absI b
  · rw [if_pos q]; exact Or.inl rfl
  · rw [if_neg q]
    right
    by_cases a0 : a = 0
    · subst a0; simp
    · have q2 : ¬ Int.tdiv 1000000000000 (absI a) < absI b := fun q3 => q ⟨a0, q3⟩
      have pa : 0 < absI a := by unfold absI; split <;> omega
      have q3 : absI b * absI a ≤ 1000000000000 := by
        rw [Int.tdiv_eq_ediv_of_nonneg (by decide)] at q2
        have q4 : absI b ≤ 1000000000000 / absI a := by omega
        have := Int.mul_le_mul_of_nonneg_right q4 (Int.le_of_lt pa)
        exact Int.le_trans this (Int.ediv_mul_le _ (by omega))
      have e : absI b * absI a = absI (a * b) := by
        unfold absI
        by_cases k1 : b < 0 <;> by_cases k2 : a < 0
        · rw [if_pos k1, if_pos k2, Int.neg_mul_neg, Int.mul_comm, if_neg (Int.not_lt.mpr (Int.mul_nonneg_of_nonpos_of_nonpos (by omega) (by omega)))]
        · have : a * b < 0 := Int.mul_neg_of_pos_of_neg (by omega) k1
          rw [if_pos k1, if_neg k2, if_pos this, Int.neg_mul, Int.mul_comm]
        · rw [if_neg k1, if_pos k2]
          by_cases k3 : b = 0
          · subst k3; simp
          · have : a * b < 0 := Int.mul_neg_of_neg_of_pos k2 (by omega)
            rw [if_pos this, Int.mul_neg, Int.mul_comm]
        · rw [if_neg k1, if_neg k2, if_neg (Int.not_lt.mpr (Int.mul_nonneg (by omega) (by omega))), Int.mul_comm]
      rw [e] at q3
      unfold absI at q3
      by_cases k : a * b < 0
      · rw [if_pos k] at q3; omega
      · rw [if_neg k] at q3; omega
/-- two values make one within bounds, or none -/
theorem mkv_r {k a b : Int} (ha : -1000000000000 ≤ a ∧ a ≤ 1000000000000) (hb : -1000000000000 ≤ b ∧ b ≤ 1000000000000) : okb (mkv k a b) := by
  unfold mkv
  by_cases k1 : k = 1
  · rw [if_pos k1]; exact okb_t _ _ _ (Or.inr rfl) (Or.inl rfl)
  rw [if_neg k1]
  by_cases k2 : k = 2
  · rw [if_pos k2]; exact okb_t _ _ _ (Or.inr rfl) (Or.inl rfl)
  rw [if_neg k2]
  by_cases k3 : k = 3
  · rw [if_pos k3]; exact okb_t _ _ _ (Or.inr rfl) (Or.inl rfl)
  rw [if_neg k3]
  by_cases k4 : k = 4
  · rw [if_pos k4]; exact okb_t _ _ _ (Or.inl rfl) (Or.inr rfl)
  rw [if_neg k4]
  by_cases k5 : k = 5
  · rw [if_pos k5]; exact okb_t _ _ _ (Or.inr rfl) (Or.inl rfl)
  rw [if_neg k5]
  by_cases k6 : k = 6
  · rw [if_pos k6]; exact okb_t _ _ _ (Or.inr rfl) (Or.inl rfl)
  rw [if_neg k6]
  by_cases k7 : k = 7
  · rw [if_pos k7]; exact okb_b _
  rw [if_neg k7]
  by_cases k8 : k = 8
  · rw [if_pos k8]; exact okb_b _
  rw [if_neg k8]
  by_cases k9 : k = 9
  · rw [if_pos k9]; exact okb_m hb
  rw [if_neg k9]
  by_cases k10 : k = 10
  · rw [if_pos k10]
    by_cases q : b = 0
    · rw [if_pos q]; exact Or.inl rfl
    · rw [if_neg q]
      have h1 := Int.natAbs_tdiv_le_natAbs a b
      exact Or.inr (by omega)
  rw [if_neg k10]
  by_cases k13 : k = 13
  · rw [if_pos k13]; exact okb_t _ _ _ (Or.inr rfl) (Or.inl rfl)
  rw [if_neg k13]
  exact okb_t _ _ _ (Or.inr rfl) (Or.inl rfl)
