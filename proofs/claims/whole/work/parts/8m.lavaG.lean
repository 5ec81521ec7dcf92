/-! lava of the class over a land that may differ from the reference's -/
theorem c_groundG {E : zE} {M : zM} {Q : Int → zM → Prop} {c : Nat} {wl tr hh : Int} (hc : c < 64) (hw : M 31 c = wl + 2 * tr) (hb : (wl = 0 ∨ wl = 1) ∧ (tr = 0 ∨ tr = 1)) (he : M 29 c = hh) (h : Q (hh + (if wl = 0 then 0 else 8) - (if tr = 0 then 0 else 8)) M) : zP E mX1_groundOf [.inr (.inr 28), .inl (c : Int)] M Q := by
  refine vcX1_groundOf _ ?_
  have ce : (c : Int).toNat = c := Int.toNat_natCast c
  rw [ce, hw, he]
  obtain ⟨h1 | h1, h2 | h2⟩ := hb <;> subst h1 <;> subst h2
  · refine ⟨by omega, by omega, zRd rfl, fun _ => ⟨by omega, zRd rfl, fun _ => ?_, fun q => absurd (by decide) q⟩, fun q => absurd (by decide) q⟩
    simpa using h
  · refine ⟨by omega, by omega, zRd rfl, fun _ => ⟨by omega, zRd rfl, fun q => absurd q (by decide), fun _ => ?_⟩, fun q => absurd (by decide) q⟩
    rw [if_pos rfl, if_neg (by decide)] at h
    rw [show hh + -8 = hh + 0 - 8 by omega]
    exact h
  · refine ⟨by omega, by omega, zRd rfl, fun q => absurd q (by decide), fun _ => ⟨by omega, zRd rfl, fun _ => ?_, fun q => absurd (by decide) q⟩⟩
    simpa using h
  · refine ⟨by omega, by omega, zRd rfl, fun q => absurd q (by decide), fun _ => ⟨by omega, zRd rfl, fun q => absurd q (by decide), fun _ => ?_⟩⟩
    rw [if_neg (by decide)] at h
    rw [show hh + 8 + -8 = hh + 8 - 8 by omega]
    exact h
set_option maxHeartbeats 8000000 in
theorem c_stepLavaG {E : zE} {M M0 : zM} {Q : Int → zM → Prop} {f w : Nat} {k : Nat} (hA : RelA k M0) (hM : ∀ x, (x = 28 ∨ x = 29 ∨ x = 30 ∨ x = 31 ∨ x = wid w) → M x = M0 x) (hf : zIs_0 (f : Int)) (hw : (w : Int) < M0 102 58)
    (h : ∀ M' : zM, csFr f M M' → (∀ j, j ≠ 3 → j ≠ 4 → M' f j = M f j) → M' f 4 = 1 → fcOk M' M0 f w → Q 0 M') : zP E mX0_stepLava [.inr (.inr (f : Int)), .inr (.inr 28), .inr (.inr (wid w : Int))] M Q := by
  obtain ⟨-, -, -, -, -, -, hl, -, ⟨wc, wr, wf, wb⟩, -⟩ := hA
  obtain ⟨w1, w2⟩ := wt_r hl
  obtain ⟨l1, l2, l3, l4, l5, l6, l7, l8, l9, l10⟩ := hl
  have hw3 : w < 3 := by omega
  obtain ⟨f1, f2, f3, f4, f5⟩ := wf w hw3
  obtain ⟨b1, b2, b3, b4, b5⟩ := wb w hw
  have hg : zIs_10 (wid w : Int) := by
    unfold wid zIs_10
    have : w = 0 ∨ w = 1 ∨ w = 2 := by omega
    rcases this with rfl | rfl | rfl <;> simp
  obtain ⟨W, hW⟩ : ∃ W : Nat, M0 102 51 = (W : Int) := ⟨(M0 102 51).toNat, by omega⟩
  obtain ⟨T, hT⟩ : ∃ T : Nat, M0 102 52 = (T : Int) := ⟨(M0 102 52).toNat, by omega⟩
  have hWT : M0 102 51 * M0 102 52 = ((W * T : Nat) : Int) := by rw [hW, hT]; simp
  obtain ⟨v, hv⟩ : ∃ v : Nat, M0 133 w = (v : Int) := ⟨(M0 133 w).toNat, by omega⟩
  rw [hWT] at l2 b2 w1
  rw [hv] at f2 b2
  have hvl : v < W * T := by omega
  have hA : W * T ≤ 64 := by omega
  have h2 : 2 ≤ W ∧ W ≤ 8 := by omega
  have h3 : 2 ≤ T := by omega
  have g0r : ∀ c, -8 ≤ gr0 M0 c ∧ gr0 M0 c ≤ 1007 := fun c => by
    have := l9 c
    unfold gr0
    split <;> split <;> omega
  obtain ⟨zf, hzf⟩ : ∃ zf : Nat → zS3, zf = lvF (gr0 M0) v (M0 134 w) (M0 135 w) W (W * T) := ⟨_, rfl⟩
  have hR : ∀ s, lvR M0 w s = zf s := fun s => by unfold lvR; rw [hW, hT, hv, hzf]; simp
  have ok : ∀ s, s ≤ 12 → lvOk v (W * T) s (zf s) := fun s hs => by rw [hzf]; exact lv_ok h2.1 h3 b3 b4.1 hvl g0r s hs
  have zs : ∀ s, zf (s + 1) = stpF (decide (((s + 1 : Nat) : Int) ≤ M0 135 w)) v (M0 134 w) ((s + 1 : Nat) : Int) W (W * T) (zf s) := fun s => by rw [hzf]; rfl
  have hf0 : f = 35 ∨ f = 70 ∨ f = 80 ∨ f = 90 := by unfold zIs_0 at hf; omega
  have hwv : wid w = 69 ∨ wid w = 79 ∨ wid w = 89 := by
    unfold wid
    split
    · exact Or.inl rfl
    · split
      · exact Or.inr (Or.inl rfl)
      · exact Or.inr (Or.inr rfl)
  have ne : ∀ x, (x = 28 ∨ x = 29 ∨ x = 30 ∨ x = 31 ∨ x = wid w) → x ≠ f ∧ x ≠ f + 1 ∧ x ≠ f + 2 ∧ x ≠ f + 3 ∧ x ≠ f + 4 ∧ x ≠ f + 5 ∧ x ≠ f + 6 := by
    intro x hx
    omega
  have frx : ∀ M', csFr f M M' → ∀ x, (x = 28 ∨ x = 29 ∨ x = 30 ∨ x = 31 ∨ x = wid w) → M' x = M0 x := fun M' hq x hx => by
    obtain ⟨a0, a1, a2, a3, a4, a5, a6⟩ := ne x hx
    rw [hq x a0 a1 a2 a3 a4 a5 a6]
    exact hM x hx
  have e0 : (f : Int).toNat = f := Int.toNat_natCast f
  have e1 : ((f : Int) + 1).toNat = f + 1 := by omega
  have e2 : ((f : Int) + 2).toNat = f + 2 := by omega
  have e3 : ((f : Int) + 3).toNat = f + 3 := by omega
  refine vcX0_stepLava _ _ hf hg (fun (n : Nat) (l3 : Int) (M' : zM) => ∃ c : Nat, l3 = (c : Int) ∧ c ≤ W * T ∧ n = 1000 - c ∧ csFr f M M' ∧ M' f = M f ∧ (∀ j, j < c → M' (f + 1) j = 0 ∧ M' (f + 2) j = gr0 M0 j ∧ M' (f + 3) j = 13)) (fun (n : Nat) (l3 : Int) (M' : zM) => ∃ s : Nat, l3 = ((s + 1 : Nat) : Int) ∧ s ≤ 12 ∧ n = 800 - s ∧ csFr f M M' ∧ M' f = M f ∧ (∀ t, t ≤ s → ∀ j, j < W * T → M' (f + 1) (64 * t + j) = (zf t).1 j ∧ M' (f + 2) (64 * t + j) = (zf t).2.1 j) ∧ (∀ j, j < W * T → M' (f + 3) j = (zf s).2.2 j)) (fun (n : Nat) (l3 : Int) (M' : zM) => ∃ c : Nat, l3 = (c : Int) ∧ c ≤ W * T ∧ n = 600 - c ∧ csFr f M M' ∧ (∀ j, j ≠ 3 → M' f j = M f j) ∧ M' f 3 = sm c (buF M0 (zf 12).2.2) ∧ (∀ t, t ≤ 12 → ∀ j, j < W * T → M' (f + 1) (64 * t + j) = (zf t).1 j ∧ M' (f + 2) (64 * t + j) = (zf t).2.1 j) ∧ (∀ j, j < W * T → M' (f + 3) j = (zf 12).2.2 j)) ?_ ?_ ?_ ?_
  · exact ⟨1000, 0, rfl, by omega, rfl, fun _ _ _ _ _ _ _ _ => rfl, rfl, fun j hj => by omega⟩
  · rintro n l3' M' ⟨c, rfl, hc, rfl, hfr, hf', hrow⟩
    have q2 : M' 28 1 = ((W * T : Nat) : Int) := by rw [frx M' hfr _ (Or.inl rfl)]; exact l2
    rw [q2, e1, e2, e3]
    refine ⟨⟨by unfold zR; omega, by unfold zR; omega⟩, fun q => ?_, fun q => ⟨by omega, ?_⟩⟩
    · refine ⟨800 - 0, by omega, 0, rfl, by omega, rfl, hfr, hf', fun t ht j hj => ?_, fun j hj => ?_⟩
      · have ht0 : t = 0 := by omega
        subst ht0
        obtain ⟨a1, a2, -⟩ := hrow j (by omega)
        rw [Nat.mul_zero, Nat.zero_add, a1, a2, hzf]
        exact ⟨rfl, rfl⟩
      · rw [(hrow j (by omega)).2.2, hzf]
        rfl
    · have ce : (c : Int).toNat = c := Int.toNat_natCast c
      rw [ce]
      intro M1 h1
      have n1 : ∀ x, (x = 28 ∨ x = 29 ∨ x = 30 ∨ x = 31 ∨ x = wid w) → M1 x = M0 x := fun x hx => by
        rw [h1, zup_ne _ _ _ (ne x hx).2.1]
        exact frx M' hfr x hx
      refine c_groundG (wl := M0 130 c) (tr := M0 131 c) (hh := M0 128 c) (by omega) (by rw [n1 31 (by simp)]; exact l7 c) (l8 c) (by rw [n1 29 (by simp)]; exact l5 c) ?_
      show _ ∧ _
      · have gre : M0 128 c + (if M0 130 c = 0 then 0 else 8) - (if M0 131 c = 0 then 0 else 8) = gr0 M0 c := rfl
        rw [gre]
        refine ⟨by omega, ?_⟩
        intro M4 h4
        refine ⟨by omega, ?_⟩
        intro M5 h5
        refine ⟨1000 - (c + 1), by omega, c + 1, by omega, by omega, rfl, fun x x0 x1 x2 x3 x4 x5 x6 => ?_, ?_, fun j hj => ?_⟩
        · rw [h5, zup_ne _ _ _ x3, h4, zup_ne _ _ _ x2, h1, zup_ne _ _ _ x1]
          exact hfr x x0 x1 x2 x3 x4 x5 x6
        · rw [h5, zup_ne _ _ _ (by omega), h4, zup_ne _ _ _ (by omega), h1, zup_ne _ _ _ (by omega)]
          exact hf'
        · rw [h5, zup_ne _ _ _ (show f + 1 ≠ f + 3 by omega), zup_ne _ _ _ (show f + 2 ≠ f + 3 by omega), h4, zup_ne _ _ _ (show f + 1 ≠ f + 2 by omega), h1]
          by_cases hjc : j = c
          · subst hjc
            simp [zup_r]
          · obtain ⟨a1, a2, a3⟩ := hrow j (by omega)
            rw [zup_r, if_pos rfl, if_neg hjc, zup_r, if_pos rfl, if_neg hjc, zup_ne _ _ _ (show f + 2 ≠ f + 1 by omega), zup_r, if_pos rfl, if_neg hjc, zup_ne _ _ _ (show f + 3 ≠ f + 2 by omega), zup_ne _ _ _ (show f + 3 ≠ f + 1 by omega)]
            exact ⟨a1, a2, a3⟩
  · rintro n l3' M' ⟨s, rfl, hs, rfl, hfr, hf', hrow, hsi⟩
    refine ⟨by unfold zR; omega, fun q => ?_, fun q => ?_⟩
    · have hs12 : s = 12 := by omega
      subst hs12
      rw [e0]
      intro M6 h6
      refine ⟨600 - 0, by omega, 0, rfl, by omega, rfl, fun x x0 x1 x2 x3 x4 x5 x6 => ?_, fun j hj => ?_, ?_, fun t ht j hj => ?_, fun j hj => ?_⟩
      · rw [h6, zup_ne _ _ _ x0]
        exact hfr x x0 x1 x2 x3 x4 x5 x6
      · rw [h6, zup_r, if_pos rfl, if_neg hj, hf']
      · rw [h6, zup_r, if_pos rfl, if_pos rfl]
        rfl
      · rw [h6, zup_ne _ _ _ (show f + 1 ≠ f by omega), zup_ne _ _ _ (show f + 2 ≠ f by omega)]
        exact hrow t ht j hj
      · rw [h6, zup_ne _ _ _ (show f + 3 ≠ f by omega)]
        exact hsi j hj
    · have hs2 : s < 12 := by omega
      have gw : M' (wid w) = M0 (wid w) := frx M' hfr _ (by simp)
      have gl : M' 28 = M0 28 := frx M' hfr _ (by simp)
      refine c_stepOnce hf hg hs2 (W := W) (T := T) (v := v) (by rw [gl, l1]; exact hW) (by rw [gl]; exact l2) h2 h3 hA (by rw [gw]; exact f2) hvl (by rw [gw]; exact f3) b3 (by rw [gw]; exact f4) b4 (ok s (by omega)) rfl (zs s) (fun j hj => ⟨(hrow s (by omega) j hj).1, (hrow s (by omega) j hj).2, hsi j hj⟩) ?_
      intro M8 k1 k2 k3
      refine ⟨800 - (s + 1), by omega, s + 1, by omega, by omega, rfl, fun x x0 x1 x2 x3 x4 x5 x6 => ?_, ?_, fun t ht j hj => ?_, fun j hj => (k3 j hj).2.2⟩
      · rw [k1 x x1 x2 x3 x4 x5 x6]
        exact hfr x x0 x1 x2 x3 x4 x5 x6
      · rw [k1 f (by omega) (by omega) (by omega) (by omega) (by omega) (by omega)]
        exact hf'
      · by_cases hts : t = s + 1
        · subst hts
          exact ⟨(k3 j hj).1, (k3 j hj).2.1⟩
        · rw [(k2 (64 * t + j) (by omega)).1, (k2 (64 * t + j) (by omega)).2]
          exact hrow t (by omega) j hj
  · rintro n l3' M' ⟨c, rfl, hc, rfl, hfr, hf', hbu, hrow, hsi⟩
    have q2 : M' 28 1 = ((W * T : Nat) : Int) := by rw [frx M' hfr _ (Or.inl rfl)]; exact l2
    rw [q2, e0, e3]
    refine ⟨⟨by unfold zR; omega, by unfold zR; omega⟩, fun q => ?_, fun q => ⟨by omega, ?_⟩⟩
    · have hcA : c = W * T := by omega
      subst hcA
      intro M9 h9
      refine h M9 (fun x x0 x1 x2 x3 x4 x5 x6 => ?_) (fun j j1 j2 => ?_) ?_ ⟨fun t ht j hj => ?_, fun j hj => ?_, ?_⟩
      · rw [h9, zup_ne _ _ _ x0]
        exact hfr x x0 x1 x2 x3 x4 x5 x6
      · rw [h9, zup_r, if_pos rfl, if_neg j2]
        exact hf' j j1
      · rw [h9, zup_r, if_pos rfl, if_pos rfl]
      · rw [hWT] at hj
        rw [h9, zup_ne _ _ _ (show f + 1 ≠ f by omega), zup_ne _ _ _ (show f + 2 ≠ f by omega), hR]
        exact hrow t ht j (by omega)
      · rw [hWT] at hj
        rw [h9, zup_ne _ _ _ (show f + 3 ≠ f by omega), hR]
        exact hsi j (by omega)
      · rw [h9, zup_r, if_pos rfl, if_neg (by decide), hWT, hR]
        exact hbu
    · have ce : (c : Int).toNat = c := Int.toNat_natCast c
      have cA : c < W * T := by omega
      rw [ce, hsi c cA, frx M' hfr 30 (by simp), l6 c]
      have okc := (ok 12 (by omega)).2.2.2.1 c
      have nx : ∀ x M2, x = buF M0 (zf 12).2.2 c → M2 = zup M' f 3 ((M' f 3) + x) → ∃ n', n' < 600 - c ∧ (fun (n : Nat) (l3 : Int) (M' : zM) => ∃ c : Nat, l3 = (c : Int) ∧ c ≤ W * T ∧ n = 600 - c ∧ csFr f M M' ∧ (∀ j, j ≠ 3 → M' f j = M f j) ∧ M' f 3 = sm c (buF M0 (zf 12).2.2) ∧ (∀ t, t ≤ 12 → ∀ j, j < W * T → M' (f + 1) (64 * t + j) = (zf t).1 j ∧ M' (f + 2) (64 * t + j) = (zf t).2.1 j) ∧ (∀ j, j < W * T → M' (f + 3) j = (zf 12).2.2 j)) n' ((c : Int) + 1) M2 := by
        intro x M2 hx h9
        refine ⟨600 - (c + 1), by omega, c + 1, by omega, by omega, rfl, fun x x0 x1 x2 x3 x4 x5 x6 => ?_, fun j j1 => ?_, ?_, fun t ht j hj => ?_, fun j hj => ?_⟩
        · rw [h9, zup_ne _ _ _ x0]
          exact hfr x x0 x1 x2 x3 x4 x5 x6
        · rw [h9, zup_r, if_pos rfl, if_neg j1]
          exact hf' j j1
        · rw [h9, zup_r, if_pos rfl, if_pos rfl, hbu, hx]
          rfl
        · rw [h9, zup_ne _ _ _ (show f + 1 ≠ f by omega), zup_ne _ _ _ (show f + 2 ≠ f by omega)]
          exact hrow t ht j hj
        · rw [h9, zup_ne _ _ _ (show f + 3 ≠ f by omega)]
          exact hsi j hj
      refine ⟨by unfold zR; omega, fun q1 => ?_, fun q1 => ⟨by omega, ?_⟩⟩
      · intro M10 h10
        exact nx 0 M10 (by unfold buF; rw [if_neg (by omega)]) h10
      · intro M11 h11
        exact nx _ M11 (by unfold buF; rw [if_pos (by omega)]) h11

