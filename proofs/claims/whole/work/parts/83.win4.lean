/-! a window of readings: both -/
def kV (M : zM) (k : Int) (p h : Nat) : Int := knV M k (100 * p + h)
theorem g_bd (g : Int → Int) (hg : g = vl ∨ g = prs ∨ g = abz) {v : Int} (hv : -10000 ≤ v ∧ v ≤ 9999) : -9999 ≤ g v ∧ g v ≤ 9999 := by
  rcases hg with rfl | rfl | rfl
  · unfold vl; split <;> omega
  · unfold prs; split <;> omega
  · unfold abz; split <;> omega
theorem cs_bd {g : Int → Int} (hg : g = vl ∨ g = prs ∨ g = abz) {K : Nat → Int} {ov : Int} {V : Nat → Nat → Int} (hV : ∀ p h, -10000 ≤ V p h ∧ V p h ≤ 9999) (low m p : Nat) (hm : m ≤ 100) (hp : p ≤ 8) : -8000000 ≤ csum g K ov V low m p ∧ csum g K ov V low m p ≤ 8000000 := by
  have h1 : ∀ p', -(999900 : Int) ≤ (if K p' = ov then sm m (fun i => g (V p' (low + i))) else 0) ∧ (if K p' = ov then sm m (fun i => g (V p' (low + i))) else 0) ≤ 999900 := by
    intro p'
    have := sm_bd (n := m) (f := fun i => g (V p' (low + i))) (b := 9999) (fun i => g_bd g hg (hV p' (low + i)))
    split <;> omega
  have := sm_bd (n := p) h1
  unfold csum
  omega
set_option maxHeartbeats 4000000 in
theorem c_overWindow {E : zE} {M : zM} {Q : Int → zM → Prop} {w ov n h0 k : Int} (hR : rRdg M) (hP : rPst M) (hT : ∀ j, 3 ≤ j → j ≤ 8 → zR (M 26 j)) (hw : 5 ≤ w ∧ w ≤ 11) (ho : zR ov) (hn : 1 ≤ n ∧ n ≤ 48) (hh : 0 ≤ h0 ∧ h0 ≤ 99) (hk : zR k)
    (h : ∀ M' : zM, (∀ x, x ≠ 26 → M' x = M x) → (∀ j, 3 ≤ j → j ≤ 8 → zR (M' 26 j)) → ∀ low m : Nat, (low : Int) = (if h0 - n + 1 < 0 then 0 else h0 - n + 1) → (m : Int) = h0 + 1 - low → low + m ≤ 100 → ∀ t : Nat → Int, talOk (kV M k) (wS (M 104) ov low m (M 102 4).toNat 0) t → t 0 = wsum vl (M 104) ov (kV M k) low (M 102 4).toNat m → t 1 = wsum prs (M 104) ov (kV M k) low (M 102 4).toNat m → t 2 = wsum abz (M 104) ov (kV M k) low (M 102 4).toNat m → Q (tPart w t) M') : zP E mX5_overWindow [.inr (.inr 20), .inl w, .inl ov, .inl n, .inl h0, .inl k] M Q := by
  obtain ⟨p1, p2, p3, p4⟩ := hP
  obtain ⟨np, hnp⟩ : ∃ np : Nat, M 102 4 = (np : Int) := ⟨(M 102 4).toNat, by omega⟩
  obtain ⟨hr, hhr⟩ : ∃ hr : Nat, h0 = (hr : Int) := ⟨h0.toNat, by omega⟩
  obtain ⟨low, hlow⟩ : ∃ low : Nat, (low : Int) = (if h0 - n + 1 < 0 then 0 else h0 - n + 1) := ⟨(if h0 - n + 1 < 0 then 0 else h0 - n + 1).toNat, by split <;> omega⟩
  have hlow2 : (if 0 < ((h0 - n) + 1) then ((h0 - n) + 1) else 0) = (low : Int) := by rw [hlow]; split <;> split <;> omega
  have hl3 : low ≤ hr ∧ hr ≤ 99 := by
    subst hhr
    split at hlow <;> omega
  obtain ⟨m, hm⟩ : ∃ m : Nat, low + m = hr + 1 := ⟨hr + 1 - low, by omega⟩
  have h := fun M' a b => h M' a b low m hlow (by omega) (by omega)
  rw [hnp] at h p1 p2
  simp only [Int.toNat_natCast] at h
  obtain ⟨K, hK⟩ : ∃ K : Nat → Int, K = M 104 := ⟨_, rfl⟩
  obtain ⟨V, hV⟩ : ∃ V : Nat → Nat → Int, V = kV M k := ⟨_, rfl⟩
  rw [← hK, ← hV] at h
  have Vr : ∀ p h, -10000 ≤ V p h ∧ V p h ≤ 9999 := fun p h => by rw [hV]; exact knV_r hR.2.1 k _
  subst hhr
  refine vcX5_overWindow _ _ _ _ _
    (fun c l1 l2 l4 l5 l6 l7 M' => l1 = w ∧ l2 = ov ∧ l4 = (hr : Int) ∧ l5 = k ∧ l6 = (low : Int) ∧ ∃ p : Nat, l7 = (p : Int) ∧ p ≤ np ∧ c = 1000 * (np - p) + 1 ∧ (∀ x, x ≠ 26 → M' x = M x) ∧ (∀ j, 3 ≤ j → j ≤ 8 → zR (M' 26 j)) ∧ talOk V (cSet K ov low hr p 0) (M' 26) ∧ M' 26 0 = csum vl K ov V low m p ∧ M' 26 1 = csum prs K ov V low m p ∧ M' 26 2 = csum abz K ov V low m p)
    (fun c l1 l2 l4 l5 l6 l7 l8 M' => l1 = w ∧ l2 = ov ∧ l4 = (hr : Int) ∧ l5 = k ∧ l6 = (low : Int) ∧ ∃ p i : Nat, l7 = (p : Int) ∧ l8 = ((low + i : Nat) : Int) ∧ p < np ∧ i ≤ m ∧ K p = ov ∧ c + i + 1 = 1000 * (np - p) + 1 ∧ (∀ x, x ≠ 26 → M' x = M x) ∧ (∀ j, 3 ≤ j → j ≤ 8 → zR (M' 26 j)) ∧ talOk V (cSet K ov low hr p (low + i)) (M' 26) ∧ M' 26 0 = csum vl K ov V low m p + sm i (fun i => vl (V p (low + i))) ∧ M' 26 1 = csum prs K ov V low m p + sm i (fun i => prs (V p (low + i))) ∧ M' 26 2 = csum abz K ov V low m p + sm i (fun i => abz (V p (low + i))))
    ?_ ?_ ?_
  · refine vcX8_clear ?_
    rintro M1 rfl M2 rfl M3 rfl
    rw [hlow2]
    refine ⟨by unfold zR; omega, 1000 * (np - 0) + 1, rfl, rfl, rfl, rfl, rfl, 0, rfl, by omega, rfl, fun x hx => by rw [zup_ne _ _ _ hx, zup_ne _ _ _ hx, zup_ne _ _ _ hx], fun j j1 j2 => ?_, Or.inl ⟨by simp [zup_r], ?_⟩, by simp [zup_r, csum, sm], by simp [zup_r, csum, sm], by simp [zup_r, csum, sm]⟩
    · have := hT j j1 j2
      rw [zup_r, if_pos rfl, if_neg (by omega), zup_r, if_pos rfl, if_neg (by omega), zup_r, if_pos rfl, if_neg (by omega)]
      exact this
    · rintro p' h' ⟨a, b, c, d | d⟩ <;> omega
  · rintro c l1 l2 l4 l5 l6 l7 M' ⟨rfl, rfl, rfl, rfl, rfl, p, rfl, hp, rfl, fr, zz, tk, s0, s1, s2⟩
    have e1 : M' 20 1 = (np : Int) := by rw [fr _ (by decide)]; exact p1
    have pe : (p : Int).toNat = p := Int.toNat_natCast p
    have e2 : M' 21 p = K p := by rw [fr _ (by decide), p3, hK]
    have kr := p4 p
    rw [← hK] at kr
    rw [e1, pe, e2]
    have b0 := cs_bd (g := vl) (K := K) (ov := l2) (Or.inl rfl) Vr low m p (by omega) (by omega)
    have b1 := cs_bd (g := prs) (K := K) (ov := l2) (Or.inr (Or.inl rfl)) Vr low m p (by omega) (by omega)
    have b2 := cs_bd (g := abz) (K := K) (ov := l2) (Or.inr (Or.inr rfl)) Vr low m p (by omega) (by omega)
    refine ⟨⟨by unfold zR; omega, by unfold zR; omega⟩, fun q => ?_, fun q => ⟨by omega, ⟨by unfold zR; omega, ho⟩, fun q1 => ?_, fun q1 => ?_⟩⟩
    · have pn : p = np := by omega
      subst pn
      refine c_part hw (fun j hj => ?_) (h M' fr zz _ (tal_congr (fun p' h' => ?_) tk) (by rw [s0, csum_w]) (by rw [s1, csum_w]) (by rw [s2, csum_w]))
      · by_cases j3 : 3 ≤ j
        · exact zz j j3 hj
        · have : j = 0 ∨ j = 1 ∨ j = 2 := by omega
          rcases this with rfl | rfl | rfl
          · rw [s0]; unfold zR; omega
          · rw [s1]; unfold zR; omega
          · rw [s2]; unfold zR; omega
      · unfold cSet wS
        constructor
        · rintro ⟨a, b, c, d | d⟩
          · exact ⟨a, b, Or.inl ⟨by omega, d⟩⟩
          · omega
        · rintro ⟨a, b, ⟨c, d⟩ | ⟨c, d⟩⟩
          · exact ⟨a, b, by omega, Or.inl d⟩
          · omega
    · have us : ∀ g, csum g K l2 V low m (p + 1) = csum g K l2 V low m p := fun g => by
        show csum g K l2 V low m p + (if K p = l2 then _ else 0) = _
        rw [if_neg q1]
        omega
      refine ⟨1000 * (np - (p + 1)) + 1, by omega, rfl, rfl, rfl, rfl, rfl, p + 1, by omega, by omega, rfl, fr, zz, tal_congr (fun p' h' => ?_) tk, by rw [us]; exact s0, by rw [us]; exact s1, by rw [us]; exact s2⟩
      unfold cSet
      constructor
      · rintro ⟨a, b, c, d | d⟩
        · exact ⟨a, b, c, Or.inl (by omega)⟩
        · omega
      · rintro ⟨a, b, c, d | d⟩
        · by_cases e : p' = p
          · subst e; exact absurd a q1
          · exact ⟨a, b, c, Or.inl (by omega)⟩
        · omega
    · refine ⟨1000 * (np - p), by omega, rfl, rfl, rfl, rfl, rfl, p, 0, rfl, rfl, by omega, by omega, q1, by omega, fr, zz, tal_congr (fun p' h' => ?_) tk, by rw [s0]; show _ = _ + 0; omega, by rw [s1]; show _ = _ + 0; omega, by rw [s2]; show _ = _ + 0; omega⟩
      unfold cSet
      constructor
      · rintro ⟨a, b, c, d | d⟩
        · exact ⟨a, b, c, Or.inl d⟩
        · omega
      · rintro ⟨a, b, c, d | d⟩
        · exact ⟨a, b, c, Or.inl d⟩
        · omega
  · rintro c l1 l2 l4 l5 l6 l7 l8 M' ⟨rfl, rfl, rfl, rfl, rfl, p, i, rfl, rfl, hp, hi, hKp, hc, fr, zz, tk, s0, s1, s2⟩
    refine ⟨⟨by unfold zR; omega, by unfold zR; omega⟩, fun q => ?_, fun q => ?_⟩
    · have im : i = m := by omega
      subst im
      have us : ∀ g, csum g K l2 V low i (p + 1) = csum g K l2 V low i p + sm i (fun i => g (V p (low + i))) := fun g => by
        show csum g K l2 V low i p + (if K p = l2 then _ else 0) = _
        rw [if_pos hKp]
      refine ⟨1000 * (np - (p + 1)) + 1, by omega, rfl, rfl, rfl, rfl, rfl, p + 1, by omega, by omega, rfl, fr, zz, tal_congr (fun p' h' => ?_) tk, by rw [us]; exact s0, by rw [us]; exact s1, by rw [us]; exact s2⟩
      unfold cSet
      constructor
      · rintro ⟨a, b, c, d | d⟩
        · exact ⟨a, b, c, Or.inl (by omega)⟩
        · exact ⟨a, b, c, Or.inl (by omega)⟩
      · rintro ⟨a, b, c, d | d⟩
        · by_cases e : p' = p
          · exact ⟨a, b, c, Or.inr ⟨e, by omega⟩⟩
          · exact ⟨a, b, c, Or.inl (by omega)⟩
        · omega
    · have frR : rRdg M' := rRdg_c (fun x j hx => by
        rw [fr x (fun e => by subst e; exact absurd hx (by show ¬ false = true; decide))]) hR
      refine c_known frR hk (by omega) (by omega) ?_
      have ve : knV M' l5 (100 * (p : Int) + ((low + i : Nat) : Int)).toNat = V p (low + i) := by
        rw [hV]
        unfold kV knV
        rw [show (100 * (p : Int) + ((low + i : Nat) : Int)).toNat = 100 * p + (low + i) by omega, kn_congr (fr _ (by decide)) (fr _ (by decide)) (fr _ (by decide)) (fr _ (by decide)) (fr _ (by decide)), fr 102 (by decide)]
      rw [ve]
      have vb := Vr p (low + i)
      have b1 := cs_bd (g := prs) (K := K) (ov := l2) (Or.inr (Or.inl rfl)) Vr low m p (by omega) (by omega)
      have b2 := sm_bd (n := i) (f := fun i => prs (V p (low + i))) (b := 9999) (fun i => g_bd prs (Or.inr (Or.inl rfl)) (Vr p (low + i)))
      refine c_add (by unfold zR; omega) (by unfold zR; omega) (by rw [s1]; unfold zR; omega) (zz 3 (by omega) (by omega)) (zz 4 (by omega) (by omega)) (zz 5 (by omega) (by omega)) (zz 6 (by omega) (by omega)) (zz 7 (by omega) (by omega)) (zz 8 (by omega) (by omega)) ?_
      intro M3 f3 t3
      obtain ⟨a0, a1, a2⟩ := tadd_s t3
      refine ⟨c - 1, by omega, rfl, rfl, rfl, rfl, rfl, p, i + 1, rfl, by omega, hp, by omega, hKp, by omega, fun x hx => by rw [f3 x hx, fr x hx], tadd_z (by unfold zR; omega) (by unfold zR; omega) zz t3, tal_congr (fun p' h' => ?_) (tal_step tk t3), ?_, ?_, ?_⟩
      · unfold addP cSet
        constructor
        · rintro (⟨a, b, c, d | d⟩ | ⟨rfl, rfl⟩)
          · exact ⟨a, b, c, Or.inl d⟩
          · exact ⟨a, b, c, Or.inr ⟨d.1, by omega⟩⟩
          · exact ⟨hKp, by omega, by omega, Or.inr ⟨rfl, by omega⟩⟩
        · rintro ⟨a, b, c, d | d⟩
          · exact Or.inl ⟨a, b, c, Or.inl d⟩
          · by_cases e : h' = low + i
            · exact Or.inr ⟨d.1, e⟩
            · exact Or.inl ⟨a, b, c, Or.inr ⟨d.1, by omega⟩⟩
      · rw [a0, s0, Int.add_assoc]; rfl
      · rw [a1, s1, Int.add_assoc]; rfl
      · rw [a2, s2, Int.add_assoc]; rfl
/-- both ways give one answer -/
theorem win_eq {M : zM} {V : Nat → Nat → Int} {K : Nat → Int} {ov w : Int} {low m np : Nat} {t : Nat → Int} (hw : 5 ≤ w ∧ w ≤ 11) (hV : ∀ p h, -10000 ≤ V p h) (hK : M 104 = K) (hM : vsOf M V np) (hl : low + m ≤ 100) (ht : talOk V (wS K ov low m np 0) t) (t0 : t 0 = wsum vl K ov V low np m) (t1 : t 1 = wsum prs K ov V low np m) (t2 : t 2 = wsum abz K ov V low np m) : tPart w t = wWhat w (wH M ov (low : Int) np m) := by
  subst hK
  obtain ⟨i1, i2, i3, i4, i5, i6, i7⟩ := wH_ok (ov := ov) (low := low) hV hM m hl
  generalize wH M ov (low : Int) np m = u at *
  unfold tPart wWhat
  have h7 : w = 5 ∨ w = 6 ∨ w = 7 ∨ w = 8 ∨ w = 9 ∨ w = 10 ∨ w = 11 := by omega
  rcases ht with ⟨a, b⟩ | ⟨a, b, c, ⟨e, -, e2⟩, ⟨l, -, l2⟩⟩
  · have m4 : u.2.2.2.1 = NV := i4.elim (fun q => q.2) (fun q => (no_most b q).elim)
    have m5 : u.2.2.2.2.1 = NV := i5.elim (fun q => q.2) (fun ⟨⟨p, h, a1, a2, _⟩, _⟩ => absurd (b p h a1) a2)
    have m6 : u.2.2.2.2.2.1 = NV := i6.elim (fun q => q.2) (fun ⟨_, ⟨p, a1, a2, _⟩, _⟩ => absurd (b p _ a1) a2)
    have m7 : u.2.2.2.2.2.2 = NV := i7.elim (fun q => q.2) (fun ⟨_, ⟨p, a1, a2, _⟩, _⟩ => absurd (b p _ a1) a2)
    rcases h7 with rfl | rfl | rfl | rfl | rfl | rfl | rfl <;> simp [a, m4, m5, m6, m7, i1, i2, i3, ← t1, ← t2, ← t0]
  · have no : ¬ noV V (wS (M 104) ov low m np 0) := fun q => no_most q b
    have m4 : u.2.2.2.1 = t 3 := i4.elim (fun q => absurd q.1 no) (fun q => most_u q b)
    have m5 : u.2.2.2.2.1 = t 4 := i5.elim (fun q => absurd q.1 no) (fun q => least_u q c)
    have m6 : u.2.2.2.2.2.1 = t 6 := i6.elim (fun q => absurd q.1 no) (fun ⟨_, q⟩ => early_u q e2)
    have m7 : u.2.2.2.2.2.2 = t 8 := i7.elim (fun q => absurd q.1 no) (fun ⟨_, q⟩ => late_u q l2)
    have a0 : ¬ t 1 = 0 := by omega
    rcases h7 with rfl | rfl | rfl | rfl | rfl | rfl | rfl <;> simp [a0, m4, m5, m6, m7, i1, i2, i3, ← t1, ← t2, ← t0]
