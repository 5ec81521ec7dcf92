/-! the reference's lava: the loops -/
set_option maxHeartbeats 4000000 in
theorem r_flows {E : zE} {M : zM} {Q : Int → zM → Prop} {w W T : Nat} (hw : w < 3) (hW : M 102 51 = (W : Int)) (hT : M 102 52 = (T : Int)) (h2 : 2 ≤ W ∧ W ≤ 8) (h3 : 2 ≤ T ∧ T ≤ 8) (hv : 0 ≤ M 133 w ∧ M 133 w < ((W * T : Nat) : Int)) (hr : 1 ≤ M 134 w ∧ M 134 w ≤ 99) (hl : 1 ≤ M 135 w ∧ M 135 w ≤ 12)
    (hg : ∀ c, 0 ≤ M 128 c ∧ M 128 c ≤ 999) (hb : ∀ i, (M 130 i = 0 ∨ M 130 i = 1) ∧ (M 131 i = 0 ∨ M 131 i = 1))
    (h : ∀ M', lvFr M M' → (∀ t, t ≤ 12 → lvRow (W * T) t (lvR M w t) M') → (∀ c, c < W * T → M' 139 c = (lvR M w 12).2.2 c) → Q 0 M') : zP E mX12_flows [.inr (.inr 102), .inl (w : Int)] M Q := by
  have hA : W * T ≤ 64 := by have := Nat.mul_le_mul h2.2 h3.2; omega
  have hwt : M 102 51 * M 102 52 = ((W * T : Nat) : Int) := by rw [hW, hT]; simp
  have hR : ∀ s, lvR M w s = lvF (gr0 M) (M 133 w).toNat (M 134 w) (M 135 w) W (W * T) s := fun s => by unfold lvR; rw [hW, hT]; simp
  simp only [hR] at h
  have g0r : ∀ c, -8 ≤ gr0 M c ∧ gr0 M c ≤ 1007 := fun c => by
    have := hg c
    unfold gr0
    split <;> split <;> omega
  obtain ⟨v, hv1⟩ : ∃ v : Nat, M 133 w = (v : Int) := ⟨(M 133 w).toNat, by omega⟩
  rw [hv1] at h hv
  simp only [Int.toNat_natCast] at h
  have hvl : v < W * T := by omega
  obtain ⟨r, hr1⟩ : ∃ r, M 134 w = r := ⟨_, rfl⟩
  obtain ⟨l, hl1⟩ : ∃ l, M 135 w = l := ⟨_, rfl⟩
  rw [hr1] at h hr
  rw [hl1] at h hl
  obtain ⟨zf, hzf⟩ : ∃ zf : Nat → zS3, zf = lvF (gr0 M) v r l W (W * T) := ⟨_, rfl⟩
  have ok : ∀ s, s ≤ 12 → lvOk v (W * T) s (zf s) := fun s hs => by rw [hzf]; exact lv_ok h2.1 h3.1 hr hl.1 hvl g0r s hs
  rw [← hzf] at h
  obtain ⟨cm, hcm⟩ : ∃ cm : Nat → Bool, cm = fun s => decide (((s + 1 : Nat) : Int) ≤ l) := ⟨_, rfl⟩
  obtain ⟨X, hX⟩ : ∃ X : Nat → Nat → Int, X = fun s => xF (cm s) v r (zf s).1 := ⟨_, rfl⟩
  obtain ⟨tp, htp⟩ : ∃ tp : Nat → Nat → Int, tp = fun s c => X s c + (zf s).2.1 c := ⟨_, rfl⟩
  obtain ⟨on, hon⟩ : ∃ on : Nat → Nat → Int, on = fun s => oneF (cm s) v r W (W * T) (zf s) := ⟨_, rfl⟩
  have zs : ∀ s, zf (s + 1) = stpF (cm s) v r ((s + 1 : Nat) : Int) W (W * T) (zf s) := fun s => by rw [hzf, hcm]; rfl
  have onr : ∀ s c, on s c = X s c + gnF (X s) (tp s) W (W * T) (W * T) c := fun s c => by rw [hon, htp, hX]; rfl
  have bd : ∀ s, s < 12 → (∀ c, c < W * T → (0 ≤ X s c ∧ X s c ≤ 1188) ∧ (0 ≤ on s c ∧ on s c ≤ 1188) ∧ (-8 ≤ tp s c ∧ tp s c ≤ 3000)) := fun s hs c hc => by
    obtain ⟨x0, xs, o0, os⟩ := one_r (cm := cm s) h2.1 h3.1 hr hvl (ok s (by omega))
    have q1 := sm_mem (fun i _ => x0 i) hc
    have q2 := sm_mem (fun i _ => o0 i) hc
    have q3 := (ok s (by omega)).2.2.1 c
    have q4 := x0 c
    have q5 := o0 c
    have e1 : X s c = xF (cm s) v r (zf s).1 c := by rw [hX]
    have e2 : on s c = oneF (cm s) v r W (W * T) (zf s) c := by rw [hon]
    have e3 : tp s c = X s c + (zf s).2.1 c := by rw [htp]
    rw [e2, e3, e1]
    have : ((s + 1 : Nat) : Int) ≤ 12 := by omega
    omega
  have Xp : ∀ s c, s ≤ 12 → 0 ≤ X s c := fun s c hs => by rw [hX]; exact (one_r (cm := cm s) h2.1 h3.1 hr hvl (ok s hs)).1 c
  have fr1 : ∀ M', lvFr M M' → M' 102 = M 102 ∧ M' 133 = M 133 ∧ M' 134 = M 134 ∧ M' 135 = M 135 := fun M' hf => ⟨hf _ (by decide) (by decide) (by decide) (by decide) (by decide), hf _ (by decide) (by decide) (by decide) (by decide) (by decide), hf _ (by decide) (by decide) (by decide) (by decide) (by decide), hf _ (by decide) (by decide) (by decide) (by decide) (by decide)⟩
  have frz : ∀ M' a i x, lvFr M M' → (a = 137 ∨ a = 138 ∨ a = 139 ∨ a = 140 ∨ a = 141) → lvFr M (zup M' a i x) := fun M' a i x hf ha y y1 y2 y3 y4 y5 => by
    rw [zup_ne _ _ _ (by rcases ha with rfl | rfl | rfl | rfl | rfl <;> assumption)]
    exact hf y y1 y2 y3 y4 y5
  refine vcX12_flows (w : Int)
    (fun n l1 l2 l3 M' => ∃ c : Nat, l1 = (w : Int) ∧ l2 = ((W * T : Nat) : Int) ∧ l3 = (c : Int) ∧ c ≤ W * T ∧ n = 100000 - c ∧ lvFr M M' ∧ (∀ j, j < c → M' 137 j = 0 ∧ M' 138 j = gr0 M j ∧ M' 139 j = 13))
    (fun n l1 l2 l3 M' => ∃ s : Nat, l1 = (w : Int) ∧ l2 = ((W * T : Nat) : Int) ∧ l3 = ((s + 1 : Nat) : Int) ∧ s ≤ 12 ∧ n = 1000 * (13 - s) ∧ lvFr M M' ∧ (∀ t, t ≤ s → lvRow (W * T) t (zf t) M') ∧ (∀ j, j < W * T → M' 139 j = (zf s).2.2 j))
    (fun (n : Nat) (l1 l2 l3 l4 l5 l6 l7 : Int) (M' : zM) => ∃ s c : Nat, l1 = (w : Int) ∧ l2 = ((W * T : Nat) : Int) ∧ l3 = ((s + 1 : Nat) : Int) ∧ l4 = 64 * (s : Int) ∧ l5 = 64 * ((s + 1 : Nat) : Int) ∧ l6 = (if cm s = true then 1 else 0) ∧ l7 = (c : Int) ∧ s < 12 ∧ c ≤ W * T ∧ n = 1000 * (13 - s) - 1 - c ∧ lvFr M M' ∧ (∀ t, t < s → lvRow (W * T) t (zf t) M') ∧ (∀ j, j < W * T → M' 137 (64 * s + j) = X s j ∧ M' 138 (64 * s + j) = (zf s).2.1 j) ∧ (∀ j, j < c → M' 137 (64 * (s + 1) + j) = X s j ∧ M' 138 (64 * (s + 1) + j) = (zf s).2.1 j ∧ M' 140 j = 0 ∧ M' 141 j = (if cm s = true ∧ j = v then 1 else 0)) ∧ (∀ j, j < W * T → M' 139 j = if (j < c ∧ 0 < X s j) ∧ (zf s).2.2 j = 13 then ((s + 1 : Nat) : Int) else (zf s).2.2 j))
    (fun (n : Nat) (l1 l2 l3 l4 l5 l6 l7 : Int) (M' : zM) => ∃ s c : Nat, l1 = (w : Int) ∧ l2 = ((W * T : Nat) : Int) ∧ l3 = ((s + 1 : Nat) : Int) ∧ l4 = 64 * (s : Int) ∧ l5 = 64 * ((s + 1 : Nat) : Int) ∧ l6 = (if cm s = true then 1 else 0) ∧ l7 = (c : Int) ∧ s < 12 ∧ c ≤ W * T ∧ n = 1000 * (13 - s) - 100 - c ∧ lvFr M M' ∧ (∀ t, t < s → lvRow (W * T) t (zf t) M') ∧ (∀ j, j < W * T → M' 137 (64 * s + j) = X s j ∧ M' 138 (64 * s + j) = (zf s).2.1 j) ∧ (∀ j, j < W * T → M' 137 (64 * (s + 1) + j) = X s j + gnF (X s) (tp s) W (W * T) c j ∧ M' 138 (64 * (s + 1) + j) = (zf s).2.1 j ∧ M' 140 j = (if j < c then gvF (X s) (tp s) W (W * T) j else 0) ∧ M' 141 j = gtF (cm s) v (X s) (tp s) W (W * T) c j) ∧ (∀ j, j < W * T → M' 139 j = if 0 < X s j ∧ (zf s).2.2 j = 13 then ((s + 1 : Nat) : Int) else (zf s).2.2 j))
    (fun (n : Nat) (l1 l2 l3 l5 l7 : Int) (M' : zM) => ∃ s c : Nat, l1 = (w : Int) ∧ l2 = ((W * T : Nat) : Int) ∧ l3 = ((s + 1 : Nat) : Int) ∧ l5 = 64 * ((s + 1 : Nat) : Int) ∧ l7 = (c : Int) ∧ s < 12 ∧ c ≤ W * T ∧ n = 1000 * (13 - s) - 200 - c ∧ lvFr M M' ∧ (∀ t, t ≤ s → lvRow (W * T) t (zf t) M') ∧ (∀ j, j < W * T → M' 140 j = gvF (X s) (tp s) W (W * T) j ∧ M' 141 j = gtF (cm s) v (X s) (tp s) W (W * T) (W * T) j) ∧ (∀ j, j < W * T → if j < c then M' 137 (64 * (s + 1) + j) = (zf (s + 1)).1 j ∧ M' 138 (64 * (s + 1) + j) = (zf (s + 1)).2.1 j ∧ M' 139 j = (zf (s + 1)).2.2 j else M' 137 (64 * (s + 1) + j) = on s j ∧ M' 138 (64 * (s + 1) + j) = (zf s).2.1 j ∧ M' 139 j = if 0 < X s j ∧ (zf s).2.2 j = 13 then ((s + 1 : Nat) : Int) else (zf s).2.2 j))
    ?_ ?_ ?_ ?_ ?_ ?_
  · rw [hwt]
    exact ⟨100000, 0, rfl, rfl, rfl, by omega, rfl, fun _ _ _ _ _ _ => rfl, fun j hj => by omega⟩
  · rintro n l1 l2 l3 M' ⟨c, rfl, rfl, rfl, hc, rfl, hf, hrow⟩
    refine ⟨⟨by unfold zR; omega, by unfold zR; omega⟩, fun q => ?_, fun q => ⟨by omega, ?_⟩⟩
    · have hcA : c = W * T := by omega
      subst hcA
      refine ⟨1000 * 13, by omega, 0, rfl, rfl, rfl, by omega, rfl, hf, fun t ht j hj => ?_, fun j hj => ?_⟩
      · have ht0 : t = 0 := by omega
        subst ht0
        obtain ⟨a1, a2, -⟩ := hrow j hj
        rw [Nat.mul_zero, Nat.zero_add, a1, a2, hzf]
        exact ⟨rfl, rfl⟩
      · rw [(hrow j hj).2.2, hzf]
        rfl
    · rintro M1 rfl
      have e1 : ∀ a j, (a = 130 ∨ a = 131 ∨ a = 128) → zup M' 137 (c : Int).toNat 0 a j = M a j := fun a j ha => by
        rw [zup_ne _ _ _ (by rcases ha with rfl | rfl | rfl <;> decide), hf a (by rcases ha with rfl | rfl | rfl <;> decide) (by rcases ha with rfl | rfl | rfl <;> decide) (by rcases ha with rfl | rfl | rfl <;> decide) (by rcases ha with rfl | rfl | rfl <;> decide) (by rcases ha with rfl | rfl | rfl <;> decide)]
      have c1 : (c : Int).toNat = c := Int.toNat_natCast c
      have hbc := hb c
      rw [e1 _ _ (Or.inl rfl), e1 _ _ (Or.inr (Or.inl rfl)), e1 _ _ (Or.inr (Or.inr rfl)), c1]
      have fin : ∀ x, x = gr0 M c → ∀ M2, M2 = zup (zup M' 137 c 0) 138 c x → (0 ≤ (c : Int) ∧ (c : Int) < 64) ∧ ∀ M3, M3 = zup M2 139 c 13 → ∃ n', n' < 100000 - c ∧ ∃ c2 : Nat, (w : Int) = (w : Int) ∧ ((W * T : Nat) : Int) = ((W * T : Nat) : Int) ∧ (c : Int) + 1 = (c2 : Int) ∧ c2 ≤ W * T ∧ n' = 100000 - c2 ∧ lvFr M M3 ∧ (∀ j, j < c2 → M3 137 j = 0 ∧ M3 138 j = gr0 M j ∧ M3 139 j = 13) := by
        rintro x rfl M2 rfl
        refine ⟨by omega, ?_⟩
        rintro M3 rfl
        refine ⟨100000 - (c + 1), by omega, c + 1, rfl, rfl, by omega, by omega, rfl, frz _ _ _ _ (frz _ _ _ _ (frz _ _ _ _ hf (by simp)) (by simp)) (by simp), fun j hj => ?_⟩
        by_cases hjc : j = c
        · subst hjc
          simp [zup_r]
        · have := hrow j (by omega)
          simp [zup_r, hjc, this]
      refine ⟨by omega, by omega, by grind [zR], fun q1 => ⟨by omega, by grind [zR], fun q2 => ⟨by omega, fin _ ?_⟩, fun q2 => ⟨by omega, fin _ ?_⟩⟩, fun q1 => ⟨by omega, by grind [zR], fun q2 => ⟨by omega, fin _ ?_⟩, fun q2 => ⟨by omega, fin _ ?_⟩⟩⟩
      · unfold gr0; rw [if_pos q1, if_pos q2]
      · unfold gr0; rw [if_pos q1, if_neg q2]
      · unfold gr0; rw [if_neg q1, if_pos q2]
      · unfold gr0; rw [if_neg q1, if_neg q2]
  · rintro n l1 l2 l3 M' ⟨s, rfl, rfl, rfl, hs, rfl, hf, hrow, hsi⟩
    obtain ⟨f1, f2, f3, f4⟩ := fr1 M' hf
    refine ⟨by unfold zR; omega, fun q => ?_, fun q => ⟨by omega, ?_⟩⟩
    · have hs12 : s = 12 := by omega
      subst hs12
      exact h M' hf hrow hsi
    · have c1 : ((w : Int)).toNat = w := Int.toNat_natCast w
      rw [c1, f2, f3, f4, hv1, hr1, hl1]
      have i0 : 64 * (((s + 1 : Nat) : Int) - 1) = 64 * (s : Int) := by omega
      rw [i0]
      refine ⟨⟨by unfold zR; omega, by unfold zR; omega⟩, fun q1 => ?_, fun q1 => ⟨by omega, by omega, by omega, by omega, ?_⟩⟩
      · have hcs : cm s = false := by rw [hcm]; simp; omega
        have xe : ∀ j, X s j = (zf s).1 j := fun j => by rw [hX]; simp [xF, hcs]
        refine ⟨1000 * (13 - s) - 1 - 0, by omega, s, 0, rfl, rfl, rfl, rfl, rfl, by rw [hcs]; rfl, rfl, by omega, by omega, rfl, hf, fun t ht => hrow t (by omega), fun j hj => ?_, fun j hj => by omega, fun j hj => ?_⟩
        · obtain ⟨a1, a2⟩ := hrow s (by omega) j hj
          rw [a1, a2, xe]
          exact ⟨rfl, rfl⟩
        · rw [hsi j hj, if_neg (by omega)]
      · have hcs : cm s = true := by rw [hcm]; simp; omega
        have i1 : (64 * (s : Int) + (v : Int)).toNat = 64 * s + v := by omega
        rw [i1]
        rintro M10 rfl
        refine ⟨1000 * (13 - s) - 1 - 0, by omega, s, 0, rfl, rfl, rfl, rfl, rfl, by rw [hcs]; rfl, rfl, by omega, by omega, rfl, frz _ _ _ _ hf (by simp), fun t ht j hj => ?_, fun j hj => ?_, fun j hj => by omega, fun j hj => ?_⟩
        · obtain ⟨a1, a2⟩ := hrow t (by omega) j hj
          have : 64 * t + j ≠ 64 * s + v := by omega
          simp [zup_r, this, a1, a2]
        · obtain ⟨a1, a2⟩ := hrow s (by omega) j hj
          obtain ⟨b1, -⟩ := hrow s (by omega) v hvl
          have xe : X s j = (zf s).1 j + (if j = v then r else 0) := by rw [hX]; simp [xF, hcs]
          rw [xe]
          by_cases hjv : j = v
          · subst hjv
            simp [zup_r, a1, a2]
          · have : 64 * s + j ≠ 64 * s + v := by omega
            simp [zup_r, this, a1, a2, hjv]
        · have := hsi j hj
          simp [zup_r]
          exact this
  · rintro n l1 l2 l3 l4 l5 l6 l7 M' ⟨s, c, rfl, rfl, rfl, rfl, rfl, rfl, rfl, hs, hc, rfl, hf, hrow, hwas, hat, hsi⟩
    obtain ⟨f1, f2, f3, f4⟩ := fr1 M' hf
    have bs := bd s hs
    refine ⟨⟨by unfold zR; omega, by unfold zR; omega⟩, fun q => ?_, fun q => ⟨by omega, ?_⟩⟩
    · have hcA : c = W * T := by omega
      refine ⟨1000 * (13 - s) - 100 - 0, by omega, s, 0, rfl, rfl, rfl, rfl, rfl, rfl, rfl, hs, by omega, rfl, hf, hrow, hwas, fun j hj => ?_, fun j hj => ?_⟩
      · obtain ⟨a1, a2, a3, a4⟩ := hat j (by omega)
        rw [a1, a2, a3, a4, if_neg (by omega)]
        exact ⟨by simp [gnF], rfl, rfl, rfl⟩
      · rw [hsi j hj]
        simp [show j < c by omega]
    · have ce : (c : Int).toNat = c := Int.toNat_natCast c
      have ie4 : (64 * (s : Int) + (c : Int)).toNat = 64 * s + c := by omega
      have ie5 : (64 * ((s + 1 : Nat) : Int) + (c : Int)).toNat = 64 * (s + 1) + c := by omega
      have cA : c < W * T := by omega
      obtain ⟨hX1, hG1⟩ := hwas c cA
      have hs1 := hsi c cA
      rw [if_neg (by omega)] at hs1
      have bsc := bs c cA
      have okc := (ok s (by omega)).2.2.2.1 c
      have fin : ∀ g : Int, g = (if cm s = true ∧ c = v then 1 else 0) → ∀ M12, M12 = zup (zup M' 140 (c : Int).toNat 0) 141 (c : Int).toNat g →
          (0 ≤ 64 * (s : Int) + (c : Int) ∧ 64 * (s : Int) + (c : Int) < 832) ∧ (0 ≤ 64 * ((s + 1 : Nat) : Int) + (c : Int) ∧ 64 * ((s + 1 : Nat) : Int) + (c : Int) < 832) ∧ (∀ M13, M13 = zup M12 137 ((64 * ((s + 1 : Nat) : Int) + (c : Int)).toNat) (M12 137 ((64 * (s : Int) + (c : Int)).toNat)) →
          (0 ≤ 64 * (s : Int) + (c : Int) ∧ 64 * (s : Int) + (c : Int) < 832) ∧ (0 ≤ 64 * ((s + 1 : Nat) : Int) + (c : Int) ∧ 64 * ((s + 1 : Nat) : Int) + (c : Int) < 832) ∧ (∀ M14, M14 = zup M13 138 ((64 * ((s + 1 : Nat) : Int) + (c : Int)).toNat) (M13 138 ((64 * (s : Int) + (c : Int)).toNat)) →
          (0 ≤ 64 * (s : Int) + (c : Int) ∧ 64 * (s : Int) + (c : Int) < 832) ∧ ((zR (M14 137 ((64 * (s : Int) + (c : Int)).toNat))) ∧ (((M14 137 ((64 * (s : Int) + (c : Int)).toNat)) ≤ 0 → ∃ n', n' < 1000 * (13 - s) - 1 - c ∧ (fun (n : Nat) (l1 l2 l3 l4 l5 l6 l7 : Int) (M' : zM) => ∃ s c : Nat, l1 = (w : Int) ∧ l2 = ((W * T : Nat) : Int) ∧ l3 = ((s + 1 : Nat) : Int) ∧ l4 = 64 * (s : Int) ∧ l5 = 64 * ((s + 1 : Nat) : Int) ∧ l6 = (if cm s = true then 1 else 0) ∧ l7 = (c : Int) ∧ s < 12 ∧ c ≤ W * T ∧ n = 1000 * (13 - s) - 1 - c ∧ lvFr M M' ∧ (∀ t, t < s → lvRow (W * T) t (zf t) M') ∧ (∀ j, j < W * T → M' 137 (64 * s + j) = X s j ∧ M' 138 (64 * s + j) = (zf s).2.1 j) ∧ (∀ j, j < c → M' 137 (64 * (s + 1) + j) = X s j ∧ M' 138 (64 * (s + 1) + j) = (zf s).2.1 j ∧ M' 140 j = 0 ∧ M' 141 j = (if cm s = true ∧ j = v then 1 else 0)) ∧ (∀ j, j < W * T → M' 139 j = if (j < c ∧ 0 < X s j) ∧ (zf s).2.2 j = 13 then ((s + 1 : Nat) : Int) else (zf s).2.2 j)) n' (w : Int) ((W * T : Nat) : Int) ((s + 1 : Nat) : Int) (64 * (s : Int)) (64 * ((s + 1 : Nat) : Int)) (if cm s = true then 1 else 0) ((c : Int) + 1) M14) ∧
          (0 < (M14 137 ((64 * (s : Int) + (c : Int)).toNat)) → (0 ≤ (c : Int) ∧ (c : Int) < 64) ∧ ((zR (M14 139 (c : Int).toNat)) ∧ ((¬ (M14 139 (c : Int).toNat) = 13 → ∃ n', n' < 1000 * (13 - s) - 1 - c ∧ (fun (n : Nat) (l1 l2 l3 l4 l5 l6 l7 : Int) (M' : zM) => ∃ s c : Nat, l1 = (w : Int) ∧ l2 = ((W * T : Nat) : Int) ∧ l3 = ((s + 1 : Nat) : Int) ∧ l4 = 64 * (s : Int) ∧ l5 = 64 * ((s + 1 : Nat) : Int) ∧ l6 = (if cm s = true then 1 else 0) ∧ l7 = (c : Int) ∧ s < 12 ∧ c ≤ W * T ∧ n = 1000 * (13 - s) - 1 - c ∧ lvFr M M' ∧ (∀ t, t < s → lvRow (W * T) t (zf t) M') ∧ (∀ j, j < W * T → M' 137 (64 * s + j) = X s j ∧ M' 138 (64 * s + j) = (zf s).2.1 j) ∧ (∀ j, j < c → M' 137 (64 * (s + 1) + j) = X s j ∧ M' 138 (64 * (s + 1) + j) = (zf s).2.1 j ∧ M' 140 j = 0 ∧ M' 141 j = (if cm s = true ∧ j = v then 1 else 0)) ∧ (∀ j, j < W * T → M' 139 j = if (j < c ∧ 0 < X s j) ∧ (zf s).2.2 j = 13 then ((s + 1 : Nat) : Int) else (zf s).2.2 j)) n' (w : Int) ((W * T : Nat) : Int) ((s + 1 : Nat) : Int) (64 * (s : Int)) (64 * ((s + 1 : Nat) : Int)) (if cm s = true then 1 else 0) ((c : Int) + 1) M14) ∧
          ((M14 139 (c : Int).toNat) = 13 → (0 ≤ (c : Int) ∧ (c : Int) < 64) ∧ (∀ M15, M15 = zup M14 139 (c : Int).toNat ((s + 1 : Nat) : Int) → ∃ n', n' < 1000 * (13 - s) - 1 - c ∧ (fun (n : Nat) (l1 l2 l3 l4 l5 l6 l7 : Int) (M' : zM) => ∃ s c : Nat, l1 = (w : Int) ∧ l2 = ((W * T : Nat) : Int) ∧ l3 = ((s + 1 : Nat) : Int) ∧ l4 = 64 * (s : Int) ∧ l5 = 64 * ((s + 1 : Nat) : Int) ∧ l6 = (if cm s = true then 1 else 0) ∧ l7 = (c : Int) ∧ s < 12 ∧ c ≤ W * T ∧ n = 1000 * (13 - s) - 1 - c ∧ lvFr M M' ∧ (∀ t, t < s → lvRow (W * T) t (zf t) M') ∧ (∀ j, j < W * T → M' 137 (64 * s + j) = X s j ∧ M' 138 (64 * s + j) = (zf s).2.1 j) ∧ (∀ j, j < c → M' 137 (64 * (s + 1) + j) = X s j ∧ M' 138 (64 * (s + 1) + j) = (zf s).2.1 j ∧ M' 140 j = 0 ∧ M' 141 j = (if cm s = true ∧ j = v then 1 else 0)) ∧ (∀ j, j < W * T → M' 139 j = if (j < c ∧ 0 < X s j) ∧ (zf s).2.2 j = 13 then ((s + 1 : Nat) : Int) else (zf s).2.2 j)) n' (w : Int) ((W * T : Nat) : Int) ((s + 1 : Nat) : Int) (64 * (s : Int)) (64 * ((s + 1 : Nat) : Int)) (if cm s = true then 1 else 0) ((c : Int) + 1) M15))))))))) := by
        intro g hg M12 h12
        rw [ce] at h12
        rw [ie4, ie5, ce]
        refine ⟨by omega, by omega, ?_⟩
        intro M13 h13
        refine ⟨by omega, by omega, ?_⟩
        intro M14 h14
        have n1 : 64 * s + c ≠ 64 * (s + 1) + c := by omega
        have w0 : M12 137 (64 * s + c) = X s c := by subst h12; simp [zup_r, hX1]
        have w1 : M13 138 (64 * s + c) = (zf s).2.1 c := by subst h13 h12; simp [zup_r, hG1]
        rw [w0] at h13
        rw [w1] at h14
        have w2 : M14 137 (64 * s + c) = X s c := by subst h14 h13 h12; simp [zup_r, hX1]
        have w3 : M14 139 c = (zf s).2.2 c := by subst h14 h13 h12; simp [zup_r, hs1]
        have fr14 : lvFr M M14 := by subst h14 h13 h12; exact frz _ _ _ _ (frz _ _ _ _ (frz _ _ _ _ (frz _ _ _ _ hf (by simp)) (by simp)) (by simp)) (by simp)
        have nx : ∀ M15 : zM, (∀ x, x ≠ 139 → M15 x = M14 x) → (∀ j, j ≠ c → M15 139 j = M14 139 j) → M15 139 c = (if 0 < X s c ∧ (zf s).2.2 c = 13 then ((s + 1 : Nat) : Int) else (zf s).2.2 c) → ∃ n', n' < 1000 * (13 - s) - 1 - c ∧ (fun (n : Nat) (l1 l2 l3 l4 l5 l6 l7 : Int) (M' : zM) => ∃ s c : Nat, l1 = (w : Int) ∧ l2 = ((W * T : Nat) : Int) ∧ l3 = ((s + 1 : Nat) : Int) ∧ l4 = 64 * (s : Int) ∧ l5 = 64 * ((s + 1 : Nat) : Int) ∧ l6 = (if cm s = true then 1 else 0) ∧ l7 = (c : Int) ∧ s < 12 ∧ c ≤ W * T ∧ n = 1000 * (13 - s) - 1 - c ∧ lvFr M M' ∧ (∀ t, t < s → lvRow (W * T) t (zf t) M') ∧ (∀ j, j < W * T → M' 137 (64 * s + j) = X s j ∧ M' 138 (64 * s + j) = (zf s).2.1 j) ∧ (∀ j, j < c → M' 137 (64 * (s + 1) + j) = X s j ∧ M' 138 (64 * (s + 1) + j) = (zf s).2.1 j ∧ M' 140 j = 0 ∧ M' 141 j = (if cm s = true ∧ j = v then 1 else 0)) ∧ (∀ j, j < W * T → M' 139 j = if (j < c ∧ 0 < X s j) ∧ (zf s).2.2 j = 13 then ((s + 1 : Nat) : Int) else (zf s).2.2 j)) n' (w : Int) ((W * T : Nat) : Int) ((s + 1 : Nat) : Int) (64 * (s : Int)) (64 * ((s + 1 : Nat) : Int)) (if cm s = true then 1 else 0) ((c : Int) + 1) M15 := by
          intro M15 k1 k2 k3
          refine ⟨1000 * (13 - s) - 1 - (c + 1), by omega, s, c + 1, rfl, rfl, rfl, rfl, rfl, rfl, by omega, hs, by omega, rfl, fun y y1 y2 y3 y4 y5 => by rw [k1 y y3]; exact fr14 y y1 y2 y3 y4 y5, fun t ht j hj => ?_, fun j hj => ?_, fun j hj => ?_, fun j hj => ?_⟩
          · obtain ⟨a1, a2⟩ := hrow t ht j hj
            have n2 : 64 * t + j ≠ 64 * (s + 1) + c := by omega
            rw [k1 _ (by decide), k1 _ (by decide)]
            subst h14 h13 h12
            simp [zup_r, n2, a1, a2]
          · obtain ⟨a1, a2⟩ := hwas j hj
            have n2 : 64 * s + j ≠ 64 * (s + 1) + c := by omega
            rw [k1 _ (by decide), k1 _ (by decide)]
            subst h14 h13 h12
            simp [zup_r, n2, a1, a2]
          · rw [k1 _ (by decide), k1 _ (by decide), k1 _ (by decide), k1 _ (by decide)]
            by_cases hjc : j = c
            · subst hjc
              subst h14 h13 h12
              simp [zup_r, hg]
            · obtain ⟨a1, a2, a3, a4⟩ := hat j (by omega)
              have n2 : 64 * (s + 1) + j ≠ 64 * (s + 1) + c := by omega
              subst h14 h13 h12
              simp [zup_r, n2, hjc, a1, a2, a3, a4]
          · by_cases hjc : j = c
            · subst hjc
              rw [k3]
              simp
            · have a1 := hsi j hj
              have e : (j < c + 1) ↔ (j < c) := by omega
              rw [k2 j hjc]
              simp only [e]
              rw [← a1]
              subst h14 h13 h12
              simp [zup_r]
        rw [w2, w3]
        refine ⟨by omega, by unfold zR; omega, fun q1 => nx _ (fun _ _ => rfl) (fun _ _ => rfl) ?_, fun q1 => ⟨by omega, by unfold zR; omega, fun q2 => nx _ (fun _ _ => rfl) (fun _ _ => rfl) ?_, fun q2 => ⟨by omega, ?_⟩⟩⟩
        · rw [w3, if_neg (by omega)]
        · rw [w3, if_neg (by omega)]
        · intro M15 h15
          refine nx M15 (fun x hx => ?_) (fun j hj => ?_) ?_
          · subst h15
            exact zup_ne _ _ _ hx
          · subst h15
            simp [zup_r, hj]
          · subst h15
            rw [if_pos ⟨q1, q2⟩]
            simp [zup_r]
      rintro M11 rfl
      have e33 : zup M' 140 (c : Int).toNat 0 133 = M 133 := by rw [zup_ne _ _ _ (by decide), f2]
      have w1 : ((w : Int)).toNat = w := Int.toNat_natCast w
      rw [e33, w1, hv1]
      by_cases hcs : cm s = true
      · refine ⟨by rw [if_pos hcs]; exact zRd rfl, fun q6 => absurd q6 (by rw [if_pos hcs]; decide), fun _ => ⟨by omega, ⟨by unfold zR; omega, by unfold zR; omega⟩, fun q7 => ⟨by omega, fin 0 ?_⟩, fun q7 => ⟨by omega, fin 1 ?_⟩⟩⟩
        · rw [if_neg (by omega)]
        · rw [if_pos ⟨hcs, by omega⟩]
      · refine ⟨by rw [if_neg hcs]; exact zRd rfl, fun _ => ⟨by omega, fin 0 (by rw [if_neg (fun q => hcs q.1)])⟩, fun q6 => absurd (if_neg hcs) q6⟩
  · rintro n l1 l2 l3 l4 l5 l6 l7 M' ⟨s, c, rfl, rfl, rfl, rfl, rfl, rfl, rfl, hs, hc, rfl, hf, hrow, hwas, hat, hsi⟩
    obtain ⟨f1, f2, f3, f4⟩ := fr1 M' hf
    have bs := bd s hs
    refine ⟨⟨by unfold zR; omega, by unfold zR; omega⟩, fun q => ?_, fun q => ?_⟩
    · have hcA : c = W * T := by omega
      subst hcA
      have w1 : ((w : Int)).toNat = w := Int.toNat_natCast w
      have i1 : (64 * (s : Int) + (v : Int)).toNat = 64 * s + v := by omega
      rw [w1, f2, f3, hv1, hr1, i1]
      have key : ∀ M2 : zM, lvFr M M2 → (∀ x, x ≠ 137 → M2 x = M' x) → (∀ j, ¬ (64 * s ≤ j ∧ j < 64 * s + W * T) → M2 137 j = M' 137 j) → (∀ j, j < W * T → M2 137 (64 * s + j) = (zf s).1 j) → ∃ n', n' < 1000 * (13 - s) - 100 - W * T ∧ (fun (n : Nat) (l1 l2 l3 l5 l7 : Int) (M' : zM) => ∃ s c : Nat, l1 = (w : Int) ∧ l2 = ((W * T : Nat) : Int) ∧ l3 = ((s + 1 : Nat) : Int) ∧ l5 = 64 * ((s + 1 : Nat) : Int) ∧ l7 = (c : Int) ∧ s < 12 ∧ c ≤ W * T ∧ n = 1000 * (13 - s) - 200 - c ∧ lvFr M M' ∧ (∀ t, t ≤ s → lvRow (W * T) t (zf t) M') ∧ (∀ j, j < W * T → M' 140 j = gvF (X s) (tp s) W (W * T) j ∧ M' 141 j = gtF (cm s) v (X s) (tp s) W (W * T) (W * T) j) ∧ (∀ j, j < W * T → if j < c then M' 137 (64 * (s + 1) + j) = (zf (s + 1)).1 j ∧ M' 138 (64 * (s + 1) + j) = (zf (s + 1)).2.1 j ∧ M' 139 j = (zf (s + 1)).2.2 j else M' 137 (64 * (s + 1) + j) = on s j ∧ M' 138 (64 * (s + 1) + j) = (zf s).2.1 j ∧ M' 139 j = if 0 < X s j ∧ (zf s).2.2 j = 13 then ((s + 1 : Nat) : Int) else (zf s).2.2 j)) n' (w : Int) ((W * T : Nat) : Int) ((s + 1 : Nat) : Int) (64 * ((s + 1 : Nat) : Int)) 0 M2 := by
        intro M2 g1 g2 g3 g4
        refine ⟨1000 * (13 - s) - 200 - 0, by omega, s, 0, rfl, rfl, rfl, rfl, rfl, hs, by omega, rfl, g1, fun t ht j hj => ?_, fun j hj => ?_, fun j hj => ?_⟩
        · by_cases hts : t = s
          · subst hts
            rw [g4 j hj, g2 _ (by decide), (hwas j hj).2]
            exact ⟨rfl, rfl⟩
          · obtain ⟨a1, a2⟩ := hrow t (by omega) j hj
            rw [g3 _ (by omega), g2 _ (by decide), a1, a2]
            exact ⟨rfl, rfl⟩
        · obtain ⟨-, -, a3, a4⟩ := hat j hj
          rw [g2 _ (by decide), g2 _ (by decide), a3, a4, if_pos hj]
          exact ⟨rfl, rfl⟩
        · obtain ⟨a1, a2, -, -⟩ := hat j hj
          rw [if_neg (by omega), g3 _ (by omega), g2 _ (by decide), g2 _ (by decide), a1, a2, hsi j hj, onr]
          exact ⟨rfl, rfl, rfl⟩
      refine ⟨by split <;> exact zRd rfl, fun q1 => ?_, fun q1 => ⟨by omega, by omega, by omega, by omega, ?_⟩⟩
      · have hcs : ¬ cm s = true := fun q2 => by rw [if_pos q2] at q1; exact absurd q1 (by decide)
        refine key M' hf (fun _ _ => rfl) (fun _ _ => rfl) (fun j hj => ?_)
        rw [(hwas j hj).1, hX]
        simp [xF, hcs]
      · have hcs : cm s = true := by
          apply Classical.byContradiction
          intro q2
          exact q1 (if_neg q2)
        intro M24 h24
        refine key M24 (by subst h24; exact frz _ _ _ _ hf (by simp)) (fun x hx => by subst h24; exact zup_ne _ _ _ hx) (fun j hj => ?_) (fun j hj => ?_)
        · subst h24
          have n2 : j ≠ 64 * s + v := by omega
          simp [zup_r, n2]
        · have xe : ∀ i, X s i = (zf s).1 i + (if i = v then r else 0) := fun i => by rw [hX]; simp [xF, hcs]
          subst h24
          by_cases hjv : j = v
          · subst hjv
            simp [zup_r, (hwas j hj).1, xe]
          · have n2 : 64 * s + j ≠ 64 * s + v := by omega
            simp [zup_r, n2, (hwas j hj).1, xe, hjv]
    · have ce : (c : Int).toNat = c := Int.toNat_natCast c
      have ie4 : (64 * (s : Int) + (c : Int)).toNat = 64 * s + c := by omega
      have ie5 : (64 * ((s + 1 : Nat) : Int) + (c : Int)).toNat = 64 * (s + 1) + c := by omega
      have cA : c < W * T := by omega
      obtain ⟨hX1, hG1⟩ := hwas c cA
      have bsc := bs c cA
      have gvr := gvF_r (X s) (tp s) W (W * T) c (Xp s c (by omega))
      obtain ⟨-, lowl⟩ := low_r (top := tp s) h2.1 h3.1 cA
      have tpe : ∀ j, tp s j = X s j + (zf s).2.1 j := fun j => by rw [htp]
      have un1 : ∀ j, gnF (X s) (tp s) W (W * T) (c + 1) j = gnF (X s) (tp s) W (W * T) c j - (if c = j then gvF (X s) (tp s) W (W * T) c else 0) + (if low (tp s) W (W * T) c = j then gvF (X s) (tp s) W (W * T) c else 0) := fun j => rfl
      have un2 : ∀ j, gtF (cm s) v (X s) (tp s) W (W * T) (c + 1) j = gtF (cm s) v (X s) (tp s) W (W * T) c j + (if 0 < gvF (X s) (tp s) W (W * T) c ∧ low (tp s) W (W * T) c = j then 1 else 0) := fun j => rfl
      have stay : gvF (X s) (tp s) W (W * T) c = 0 → ∃ n', n' < 1000 * (13 - s) - 100 - c ∧ (fun (n : Nat) (l1 l2 l3 l4 l5 l6 l7 : Int) (M' : zM) => ∃ s c : Nat, l1 = (w : Int) ∧ l2 = ((W * T : Nat) : Int) ∧ l3 = ((s + 1 : Nat) : Int) ∧ l4 = 64 * (s : Int) ∧ l5 = 64 * ((s + 1 : Nat) : Int) ∧ l6 = (if cm s = true then 1 else 0) ∧ l7 = (c : Int) ∧ s < 12 ∧ c ≤ W * T ∧ n = 1000 * (13 - s) - 100 - c ∧ lvFr M M' ∧ (∀ t, t < s → lvRow (W * T) t (zf t) M') ∧ (∀ j, j < W * T → M' 137 (64 * s + j) = X s j ∧ M' 138 (64 * s + j) = (zf s).2.1 j) ∧ (∀ j, j < W * T → M' 137 (64 * (s + 1) + j) = X s j + gnF (X s) (tp s) W (W * T) c j ∧ M' 138 (64 * (s + 1) + j) = (zf s).2.1 j ∧ M' 140 j = (if j < c then gvF (X s) (tp s) W (W * T) j else 0) ∧ M' 141 j = gtF (cm s) v (X s) (tp s) W (W * T) c j) ∧ (∀ j, j < W * T → M' 139 j = if 0 < X s j ∧ (zf s).2.2 j = 13 then ((s + 1 : Nat) : Int) else (zf s).2.2 j)) n' (w : Int) ((W * T : Nat) : Int) ((s + 1 : Nat) : Int) (64 * (s : Int)) (64 * ((s + 1 : Nat) : Int)) (if cm s = true then 1 else 0) ((c : Int) + 1) M' := by
        intro g0
        refine ⟨1000 * (13 - s) - 100 - (c + 1), by omega, s, c + 1, rfl, rfl, rfl, rfl, rfl, rfl, by omega, hs, by omega, rfl, hf, hrow, hwas, fun j hj => ?_, hsi⟩
        obtain ⟨a1, a2, a3, a4⟩ := hat j hj
        refine ⟨?_, a2, ?_, ?_⟩
        · rw [a1, un1, g0]
          simp
        · rw [a3]
          by_cases hjc : j = c
          · subst hjc
            rw [if_neg (by omega), if_pos (by omega), g0]
          · by_cases hj2 : j < c
            · rw [if_pos hj2, if_pos (by omega)]
            · rw [if_neg hj2, if_neg (by omega)]
        · rw [a4, un2, g0]
          simp
      rw [ce, ie4, ie5, hX1]
      refine ⟨by omega, by unfold zR; omega, fun q1 => ?_, fun q1 => stay ?_⟩
      · refine r_lowestBy (by rw [f1]; exact hW) (by rw [f1]; exact hT) h2 h3 cA hA rfl (by omega) (top := tp s) (fun j hj => ?_) ?_
        · have := bs j hj
          rw [(hwas j hj).1, (hwas j hj).2, tpe]
          rw [tpe] at this
          exact ⟨rfl, by unfold zR; omega⟩
        generalize hb0 : low (tp s) W (W * T) c = b at *
        have ie6 : (64 * (s : Int) + (b : Int)).toNat = 64 * s + b := by omega
        have ie7 : (64 * ((s + 1 : Nat) : Int) + (b : Int)).toNat = 64 * (s + 1) + b := by omega
        have ce2 : (b : Int).toNat = b := Int.toNat_natCast b
        refine r_topOf (by omega) ?_
        refine r_topOf (by omega) ?_
        have bsb := bs b lowl
        have t1 : M' 137 (64 * s + c) + M' 138 (64 * s + c) = tp s c := by rw [hX1, hG1, tpe]
        have t2 : M' 137 (64 * s + b) + M' 138 (64 * s + b) = tp s b := by rw [(hwas b lowl).1, (hwas b lowl).2, tpe]
        rw [ie6, ie7, ce2, ie4, t1, t2]
        have gvu : gvF (X s) (tp s) W (W * T) c = if X s c ≤ 0 ∨ tp s c - tp s b < 2 then 0 else (if Int.tdiv (tp s c - tp s b) 2 < X s c then Int.tdiv (tp s c - tp s b) 2 else X s c) := by unfold gvF; rw [hb0]
        have fin : ∀ nv : Int, nv = gvF (X s) (tp s) W (W * T) c → 0 < nv → ∀ M31, M31 = zup M' 140 c nv → (0 ≤ (b : Int) ∧ (b : Int) < 64) ∧ (0 ≤ (b : Int) ∧ (b : Int) < 64) ∧ (∀ M32, M32 = zup M31 141 b ((M31 141 b) + 1) →
            (0 ≤ 64 * ((s + 1 : Nat) : Int) + (c : Int) ∧ 64 * ((s + 1 : Nat) : Int) + (c : Int) < 832) ∧ (0 ≤ 64 * ((s + 1 : Nat) : Int) + (c : Int) ∧ 64 * ((s + 1 : Nat) : Int) + (c : Int) < 832) ∧ (∀ M33, M33 = zup M32 137 (64 * (s + 1) + c) ((M32 137 (64 * (s + 1) + c)) - nv) →
            (0 ≤ 64 * ((s + 1 : Nat) : Int) + (b : Int) ∧ 64 * ((s + 1 : Nat) : Int) + (b : Int) < 832) ∧ (0 ≤ 64 * ((s + 1 : Nat) : Int) + (b : Int) ∧ 64 * ((s + 1 : Nat) : Int) + (b : Int) < 832) ∧ (∀ M34, M34 = zup M33 137 (64 * (s + 1) + b) ((M33 137 (64 * (s + 1) + b)) + nv) →
            ∃ n', n' < 1000 * (13 - s) - 100 - c ∧ (fun (n : Nat) (l1 l2 l3 l4 l5 l6 l7 : Int) (M' : zM) => ∃ s c : Nat, l1 = (w : Int) ∧ l2 = ((W * T : Nat) : Int) ∧ l3 = ((s + 1 : Nat) : Int) ∧ l4 = 64 * (s : Int) ∧ l5 = 64 * ((s + 1 : Nat) : Int) ∧ l6 = (if cm s = true then 1 else 0) ∧ l7 = (c : Int) ∧ s < 12 ∧ c ≤ W * T ∧ n = 1000 * (13 - s) - 100 - c ∧ lvFr M M' ∧ (∀ t, t < s → lvRow (W * T) t (zf t) M') ∧ (∀ j, j < W * T → M' 137 (64 * s + j) = X s j ∧ M' 138 (64 * s + j) = (zf s).2.1 j) ∧ (∀ j, j < W * T → M' 137 (64 * (s + 1) + j) = X s j + gnF (X s) (tp s) W (W * T) c j ∧ M' 138 (64 * (s + 1) + j) = (zf s).2.1 j ∧ M' 140 j = (if j < c then gvF (X s) (tp s) W (W * T) j else 0) ∧ M' 141 j = gtF (cm s) v (X s) (tp s) W (W * T) c j) ∧ (∀ j, j < W * T → M' 139 j = if 0 < X s j ∧ (zf s).2.2 j = 13 then ((s + 1 : Nat) : Int) else (zf s).2.2 j)) n' (w : Int) ((W * T : Nat) : Int) ((s + 1 : Nat) : Int) (64 * (s : Int)) (64 * ((s + 1 : Nat) : Int)) (if cm s = true then 1 else 0) ((c : Int) + 1) M34))) := by
          intro nv hnv hnp M31 h31
          refine ⟨by omega, by omega, ?_⟩
          intro M32 h32
          refine ⟨by omega, by omega, ?_⟩
          intro M33 h33
          refine ⟨by omega, by omega, ?_⟩
          intro M34 h34
          refine ⟨1000 * (13 - s) - 100 - (c + 1), by omega, s, c + 1, rfl, rfl, rfl, rfl, rfl, rfl, by omega, hs, by omega, rfl, ?_, fun t ht j hj => ?_, fun j hj => ?_, fun j hj => ?_, fun j hj => ?_⟩
          · subst h34 h33 h32 h31
            exact frz _ _ _ _ (frz _ _ _ _ (frz _ _ _ _ (frz _ _ _ _ hf (by simp)) (by simp)) (by simp)) (by simp)
          · obtain ⟨a1, a2⟩ := hrow t ht j hj
            have n2 : 64 * t + j ≠ 64 * (s + 1) + c := by omega
            have n3 : 64 * t + j ≠ 64 * (s + 1) + b := by omega
            subst h34 h33 h32 h31
            simp [zup_r, n2, n3, a1, a2]
          · obtain ⟨a1, a2⟩ := hwas j hj
            have n2 : 64 * s + j ≠ 64 * (s + 1) + c := by omega
            have n3 : 64 * s + j ≠ 64 * (s + 1) + b := by omega
            subst h34 h33 h32 h31
            simp [zup_r, n2, n3, a1, a2]
          · obtain ⟨a1, a2, a3, a4⟩ := hat j hj
            have p1 : M34 138 = M' 138 := by subst h34 h33 h32 h31; simp [zup_ne]
            have p2 : M34 140 j = if j = c then nv else M' 140 j := by subst h34 h33 h32 h31; simp [zup_r]
            have p3 : M34 141 j = if j = b then M' 141 b + 1 else M' 141 j := by subst h34 h33 h32 h31; simp [zup_r]
            have p4 : M34 137 (64 * (s + 1) + j) = M' 137 (64 * (s + 1) + j) - (if c = j then nv else 0) + (if b = j then nv else 0) := by
              subst h34 h33 h32 h31
              by_cases k1 : c = j <;> by_cases k2 : b = j
              · subst k1; subst k2; simp [zup_r]
              · subst k1
                have k3 : ¬ c = b := fun q => k2 q.symm
                simp [zup_r, k2, k3]
              · subst k2
                have k3 : ¬ b = c := fun q => k1 q.symm
                simp [zup_r, k1, k3]
              · have k3 : ¬ j = c := fun q => k1 q.symm
                have k4 : ¬ j = b := fun q => k2 q.symm
                simp [zup_r, k1, k2, k3, k4]
            refine ⟨?_, by rw [p1]; exact a2, ?_, ?_⟩
            · rw [p4, a1, un1, ← hnv]
              omega
            · rw [p2, a3]
              by_cases k1 : j = c
              · subst k1
                rw [if_pos rfl, if_pos (by omega), hnv]
              · rw [if_neg k1]
                by_cases k2 : j < c
                · rw [if_pos k2, if_pos (by omega)]
                · rw [if_neg k2, if_neg (by omega)]
            · rw [p3, un2, ← hnv]
              by_cases k1 : j = b
              · subst k1
                rw [if_pos rfl, if_pos ⟨hnp, rfl⟩, a4]
              · rw [if_neg k1, if_neg (fun q => k1 q.2.symm), a4]
                omega
          · have a1 := hsi j hj
            subst h34 h33 h32 h31
            simp only [zup_ne _ _ _ (show 139 ≠ 137 by decide), zup_ne _ _ _ (show 139 ≠ 141 by decide), zup_ne _ _ _ (show 139 ≠ 140 by decide)]
            exact a1
        have td : 2 ≤ tp s c - tp s b → 1 ≤ Int.tdiv (tp s c - tp s b) 2 ∧ Int.tdiv (tp s c - tp s b) 2 ≤ 3008 := fun q2 => by
          rw [Int.tdiv_eq_ediv_of_nonneg (by omega)]
          omega
        refine ⟨by unfold zR; omega, fun q2 => ⟨by unfold zR; omega, by omega, ⟨by have := td q2; unfold zR; omega, by rw [hX1]; unfold zR; omega⟩, fun q3 => ?_, fun q3 => ?_⟩, fun q2 => stay ?_⟩
        · rw [hX1] at q3 ⊢
          exact ⟨by omega, by omega, fin (X s c) (by rw [gvu, if_neg (by omega), if_neg (by omega)]) (by omega)⟩
        · rw [hX1] at q3
          exact ⟨by unfold zR; omega, by omega, fin _ (by rw [gvu, if_neg (by omega), if_pos q3]) (by have := td q2; omega)⟩
        · rw [gvu, if_pos (Or.inr q2)]
      · unfold gvF
        rw [if_pos (Or.inl (by omega))]
  · rintro n l1 l2 l3 l5 l7 M' ⟨s, c, rfl, rfl, rfl, rfl, rfl, hs, hc, rfl, hf, hrow, hgv, hall⟩
    have bs := bd s hs
    refine ⟨⟨by unfold zR; omega, by unfold zR; omega⟩, fun q => ?_, fun q => ?_⟩
    · have hcA : c = W * T := by omega
      subst hcA
      refine ⟨1000 * (13 - (s + 1)), by omega, s + 1, rfl, rfl, by omega, by omega, rfl, hf, fun t ht j hj => ?_, fun j hj => ?_⟩
      · by_cases hts : t = s + 1
        · subst hts
          have := hall j hj
          rw [if_pos hj] at this
          exact ⟨this.1, this.2.1⟩
        · exact hrow t (by omega) j hj
      · have := hall j hj
        rw [if_pos hj] at this
        exact this.2.2
    · have ce : (c : Int).toNat = c := Int.toNat_natCast c
      have ie5 : (64 * ((s + 1 : Nat) : Int) + (c : Int)).toNat = 64 * (s + 1) + c := by omega
      have cA : c < W * T := by omega
      have hme := hall c cA
      rw [if_neg (by omega)] at hme
      obtain ⟨m1, m2, m3⟩ := hme
      obtain ⟨g1, g2⟩ := hgv c cA
      have bsc := bs c cA
      have gvr := gvF_r (X s) (tp s) W (W * T) c (Xp s c (by omega))
      have gtr := gtF_r (cm s) v (X s) (tp s) W (W * T) (W * T) c
      have mvg := (mvF_gt (cm s) v (X s) (tp s) W (W * T) (W * T) c).2
      have okc := (ok s (by omega)).2.2.2.1 c
      have i0 : (0 ≤ 64 * ((s + 1 : Nat) : Int) + (c : Int) ∧ 64 * ((s + 1 : Nat) : Int) + (c : Int) < 832) := by omega
      have i1 : (0 ≤ (c : Int) ∧ (c : Int) < 64) := by omega
      have Vr : zR (gvF (X s) (tp s) W (W * T) c) := by unfold zR; omega
      have Gr : zR (gtF (cm s) v (X s) (tp s) W (W * T) (W * T) c) := by unfold zR; omega
      have oR : zR (on s c) := by unfold zR; omega
      have sR : zR (M' 139 c) := by
        rw [m3]
        by_cases k : 0 < X s c ∧ (zf s).2.2 c = 13
        · rw [if_pos k]; unfold zR; omega
        · rw [if_neg k]; unfold zR; omega
      have cl : coolF (cm s) v r W (W * T) (zf s) c = true ↔ (0 < on s c ∧ gtF (cm s) v (X s) (tp s) W (W * T) (W * T) c ≤ 0 ∧ gvF (X s) (tp s) W (W * T) c ≤ 0) := by
        have e : coolF (cm s) v r W (W * T) (zf s) c = (decide (0 < on s c) && decide (mvF (cm s) v (X s) (tp s) W (W * T) (W * T) c = 0)) := by rw [hon, htp, hX]; rfl
        rw [e]
        simp only [Bool.and_eq_true, decide_eq_true_eq, mvg]
        exact ⟨fun q => ⟨q.1, q.2.1, q.2.2 cA⟩, fun q => ⟨q.1, q.2.1, fun _ => q.2.2⟩⟩
      have z1 : (zf (s + 1)).1 c = if (0 < on s c ∧ gtF (cm s) v (X s) (tp s) W (W * T) (W * T) c ≤ 0 ∧ gvF (X s) (tp s) W (W * T) c ≤ 0) then on s c - 1 else on s c := by
        have e : (zf (s + 1)).1 c = if coolF (cm s) v r W (W * T) (zf s) c = true then on s c - 1 else on s c := by rw [zs, hon]; rfl
        rw [e]
        by_cases k : coolF (cm s) v r W (W * T) (zf s) c = true
        · rw [if_pos k, if_pos (cl.mp k)]
        · rw [if_neg k, if_neg (fun q => k (cl.mpr q))]
      have z2 : (zf (s + 1)).2.1 c = if (0 < on s c ∧ gtF (cm s) v (X s) (tp s) W (W * T) (W * T) c ≤ 0 ∧ gvF (X s) (tp s) W (W * T) c ≤ 0) then (zf s).2.1 c + 1 else (zf s).2.1 c := by
        have e : (zf (s + 1)).2.1 c = if coolF (cm s) v r W (W * T) (zf s) c = true then (zf s).2.1 c + 1 else (zf s).2.1 c := by rw [zs]; rfl
        rw [e]
        by_cases k : coolF (cm s) v r W (W * T) (zf s) c = true
        · rw [if_pos k, if_pos (cl.mp k)]
        · rw [if_neg k, if_neg (fun q => k (cl.mpr q))]
      have z3 : (zf (s + 1)).2.2 c = if (0 < X s c ∨ 0 < on s c) ∧ (zf s).2.2 c = 13 then ((s + 1 : Nat) : Int) else (zf s).2.2 c := by rw [zs, hon, hX]; rfl
      have nx : ∀ M2 : zM, (∀ x, x ≠ 137 → x ≠ 138 → x ≠ 139 → M2 x = M' x) → (∀ j, j ≠ 64 * (s + 1) + c → M2 137 j = M' 137 j ∧ M2 138 j = M' 138 j) → (∀ j, j ≠ c → M2 139 j = M' 139 j) → M2 137 (64 * (s + 1) + c) = (zf (s + 1)).1 c → M2 138 (64 * (s + 1) + c) = (zf (s + 1)).2.1 c → M2 139 c = (zf (s + 1)).2.2 c →
          ∃ n', n' < 1000 * (13 - s) - 200 - c ∧ (fun (n : Nat) (l1 l2 l3 l5 l7 : Int) (M' : zM) => ∃ s c : Nat, l1 = (w : Int) ∧ l2 = ((W * T : Nat) : Int) ∧ l3 = ((s + 1 : Nat) : Int) ∧ l5 = 64 * ((s + 1 : Nat) : Int) ∧ l7 = (c : Int) ∧ s < 12 ∧ c ≤ W * T ∧ n = 1000 * (13 - s) - 200 - c ∧ lvFr M M' ∧ (∀ t, t ≤ s → lvRow (W * T) t (zf t) M') ∧ (∀ j, j < W * T → M' 140 j = gvF (X s) (tp s) W (W * T) j ∧ M' 141 j = gtF (cm s) v (X s) (tp s) W (W * T) (W * T) j) ∧ (∀ j, j < W * T → if j < c then M' 137 (64 * (s + 1) + j) = (zf (s + 1)).1 j ∧ M' 138 (64 * (s + 1) + j) = (zf (s + 1)).2.1 j ∧ M' 139 j = (zf (s + 1)).2.2 j else M' 137 (64 * (s + 1) + j) = on s j ∧ M' 138 (64 * (s + 1) + j) = (zf s).2.1 j ∧ M' 139 j = if 0 < X s j ∧ (zf s).2.2 j = 13 then ((s + 1 : Nat) : Int) else (zf s).2.2 j)) n' (w : Int) ((W * T : Nat) : Int) ((s + 1 : Nat) : Int) (64 * ((s + 1 : Nat) : Int)) ((c : Int) + 1) M2 := by
        intro M2 k1 k2 k3 k4 k5 k6
        refine ⟨1000 * (13 - s) - 200 - (c + 1), by omega, s, c + 1, rfl, rfl, rfl, rfl, by omega, hs, by omega, rfl, fun y y1 y2 y3 y4 y5 => by rw [k1 y y1 y2 y3]; exact hf y y1 y2 y3 y4 y5, fun t ht j hj => ?_, fun j hj => ?_, fun j hj => ?_⟩
        · have n2 : 64 * t + j ≠ 64 * (s + 1) + c := by omega
          rw [(k2 _ n2).1, (k2 _ n2).2]
          exact hrow t ht j hj
        · rw [k1 _ (by decide) (by decide) (by decide), k1 _ (by decide) (by decide) (by decide)]
          exact hgv j hj
        · by_cases hjc : j = c
          · subst hjc
            rw [if_pos (by omega)]
            exact ⟨k4, k5, k6⟩
          · have n2 : 64 * (s + 1) + j ≠ 64 * (s + 1) + c := by omega
            have := hall j hj
            rw [(k2 _ n2).1, (k2 _ n2).2, k3 j hjc]
            by_cases hj2 : j < c
            · rw [if_pos hj2] at this
              rw [if_pos (by omega)]
              exact this
            · rw [if_neg hj2] at this
              rw [if_neg (by omega)]
              exact this
      generalize hV : gvF (X s) (tp s) W (W * T) c = V at *
      generalize hG : gtF (cm s) v (X s) (tp s) W (W * T) (W * T) c = G at *
      have stay : ¬ (0 < on s c ∧ G ≤ 0 ∧ V ≤ 0) → M' 139 c = (zf (s + 1)).2.2 c → ∃ n', n' < 1000 * (13 - s) - 200 - c ∧ (fun (n : Nat) (l1 l2 l3 l5 l7 : Int) (M' : zM) => ∃ s c : Nat, l1 = (w : Int) ∧ l2 = ((W * T : Nat) : Int) ∧ l3 = ((s + 1 : Nat) : Int) ∧ l5 = 64 * ((s + 1 : Nat) : Int) ∧ l7 = (c : Int) ∧ s < 12 ∧ c ≤ W * T ∧ n = 1000 * (13 - s) - 200 - c ∧ lvFr M M' ∧ (∀ t, t ≤ s → lvRow (W * T) t (zf t) M') ∧ (∀ j, j < W * T → M' 140 j = gvF (X s) (tp s) W (W * T) j ∧ M' 141 j = gtF (cm s) v (X s) (tp s) W (W * T) (W * T) j) ∧ (∀ j, j < W * T → if j < c then M' 137 (64 * (s + 1) + j) = (zf (s + 1)).1 j ∧ M' 138 (64 * (s + 1) + j) = (zf (s + 1)).2.1 j ∧ M' 139 j = (zf (s + 1)).2.2 j else M' 137 (64 * (s + 1) + j) = on s j ∧ M' 138 (64 * (s + 1) + j) = (zf s).2.1 j ∧ M' 139 j = if 0 < X s j ∧ (zf s).2.2 j = 13 then ((s + 1 : Nat) : Int) else (zf s).2.2 j)) n' (w : Int) ((W * T : Nat) : Int) ((s + 1 : Nat) : Int) (64 * ((s + 1 : Nat) : Int)) ((c : Int) + 1) M' := fun a1 a2 =>
        nx M' (fun _ _ _ _ => rfl) (fun _ _ => ⟨rfl, rfl⟩) (fun _ _ => rfl) (by rw [m1, z1, if_neg a1]) (by rw [m2, z2, if_neg a1]) a2
      have cool : ∀ M3 : zM, (∀ x, x ≠ 139 → M3 x = M' x) → (∀ j, j ≠ c → M3 139 j = M' 139 j) → (0 < on s c ∧ G ≤ 0 ∧ V ≤ 0) → M3 139 c = (zf (s + 1)).2.2 c → ∀ M41, M41 = zup M3 137 (64 * (s + 1) + c) ((M3 137 (64 * (s + 1) + c)) - 1) → (0 ≤ 64 * ((s + 1 : Nat) : Int) + (c : Int) ∧ 64 * ((s + 1 : Nat) : Int) + (c : Int) < 832) ∧ (0 ≤ 64 * ((s + 1 : Nat) : Int) + (c : Int) ∧ 64 * ((s + 1 : Nat) : Int) + (c : Int) < 832) ∧ (∀ M42, M42 = zup M41 138 (64 * (s + 1) + c) ((M41 138 (64 * (s + 1) + c)) + 1) →
          ∃ n', n' < 1000 * (13 - s) - 200 - c ∧ (fun (n : Nat) (l1 l2 l3 l5 l7 : Int) (M' : zM) => ∃ s c : Nat, l1 = (w : Int) ∧ l2 = ((W * T : Nat) : Int) ∧ l3 = ((s + 1 : Nat) : Int) ∧ l5 = 64 * ((s + 1 : Nat) : Int) ∧ l7 = (c : Int) ∧ s < 12 ∧ c ≤ W * T ∧ n = 1000 * (13 - s) - 200 - c ∧ lvFr M M' ∧ (∀ t, t ≤ s → lvRow (W * T) t (zf t) M') ∧ (∀ j, j < W * T → M' 140 j = gvF (X s) (tp s) W (W * T) j ∧ M' 141 j = gtF (cm s) v (X s) (tp s) W (W * T) (W * T) j) ∧ (∀ j, j < W * T → if j < c then M' 137 (64 * (s + 1) + j) = (zf (s + 1)).1 j ∧ M' 138 (64 * (s + 1) + j) = (zf (s + 1)).2.1 j ∧ M' 139 j = (zf (s + 1)).2.2 j else M' 137 (64 * (s + 1) + j) = on s j ∧ M' 138 (64 * (s + 1) + j) = (zf s).2.1 j ∧ M' 139 j = if 0 < X s j ∧ (zf s).2.2 j = 13 then ((s + 1 : Nat) : Int) else (zf s).2.2 j)) n' (w : Int) ((W * T : Nat) : Int) ((s + 1 : Nat) : Int) (64 * ((s + 1 : Nat) : Int)) ((c : Int) + 1) M42) := by
        intro M3 d1 d2 d3 d4 M41 h41
        refine ⟨i0, i0, ?_⟩
        intro M42 h42
        refine nx M42 (fun x x1 x2 x3 => ?_) (fun j hj => ?_) (fun j hj => ?_) ?_ ?_ ?_
        · subst h42 h41
          rw [zup_ne _ _ _ x2, zup_ne _ _ _ x1]
          exact d1 x x3
        · subst h42 h41
          simp [zup_r, hj, d1]
        · subst h42 h41
          rw [zup_ne _ _ _ (by decide), zup_ne _ _ _ (by decide)]
          exact d2 j hj
        · subst h42 h41
          simp [zup_r, d1, m1, z1, d3]
        · subst h42 h41
          simp [zup_r, d1, m2, z2, d3]
        · subst h42 h41
          rw [zup_ne _ _ _ (by decide), zup_ne _ _ _ (by decide)]
          exact d4
      rw [ce, ie5, m1, g1, g2]
      have s0 : on s c ≤ 0 → M' 139 c = (zf (s + 1)).2.2 c := fun q1 => by
        rw [m3, z3]
        by_cases k : 0 < X s c ∧ (zf s).2.2 c = 13
        · rw [if_pos k, if_pos ⟨Or.inl k.1, k.2⟩]
        · rw [if_neg k, if_neg (fun q2 => k ⟨q2.1.elim id (fun q3 => absurd q3 (Int.not_lt.mpr q1)), q2.2⟩)]
      have s1 : ¬ M' 139 c = 13 → M' 139 c = (zf (s + 1)).2.2 c := fun q1 => by
        rw [m3] at q1 ⊢
        rw [z3]
        by_cases k : 0 < X s c ∧ (zf s).2.2 c = 13
        · rw [if_pos k, if_pos ⟨Or.inl k.1, k.2⟩]
        · rw [if_neg k] at q1 ⊢
          rw [if_neg (fun q2 => q1 q2.2)]
      have s2 : 0 < on s c → M' 139 c = 13 → ((s + 1 : Nat) : Int) = (zf (s + 1)).2.2 c := fun q0 q1 => by
        rw [m3] at q1
        rw [z3]
        by_cases k : 0 < X s c ∧ (zf s).2.2 c = 13
        · rw [if_pos ⟨Or.inl k.1, k.2⟩]
        · rw [if_neg k] at q1
          rw [if_pos ⟨Or.inr q0, q1⟩]
      refine ⟨i0, oR, fun q1 => ⟨i0, oR, fun q2 => stay (fun a => absurd a.1 (Int.not_lt.mpr q1)) (s0 q1), fun q2 => absurd (Int.le_antisymm q1 bsc.2.1.1) q2⟩, fun q1 => ⟨i1, sR, fun q2 => ⟨i0, oR, fun q3 => absurd q3 (Int.ne_of_gt q1), fun q3 => ⟨i1, Vr, fun q4 => stay (fun a => absurd q4 (Int.not_lt.mpr a.2.2)) (s1 q2), fun q4 => ⟨i1, Gr, fun q5 => ⟨i0, i0, ?_⟩, fun q5 => stay (fun a => absurd q5 (Int.not_lt.mpr a.2.1)) (s1 q2)⟩⟩⟩, fun q2 => ⟨i1, ?_⟩⟩⟩
      · have := cool M' (fun _ _ => rfl) (fun _ _ => rfl) ⟨q1, q5, q4⟩ (s1 q2)
        rw [m1] at this
        exact this
      · intro M43 h43
        have d1 : ∀ x, x ≠ 139 → M43 x = M' x := fun x hx => by subst h43; exact zup_ne _ _ _ hx
        have d2 : ∀ j, j ≠ c → M43 139 j = M' 139 j := fun j hj => by subst h43; simp [zup_r, hj]
        have d4 : M43 139 c = (zf (s + 1)).2.2 c := by rw [← s2 q1 q2]; subst h43; simp [zup_r]
        have stay2 : ¬ (0 < on s c ∧ G ≤ 0 ∧ V ≤ 0) → ∃ n', n' < 1000 * (13 - s) - 200 - c ∧ (fun (n : Nat) (l1 l2 l3 l5 l7 : Int) (M' : zM) => ∃ s c : Nat, l1 = (w : Int) ∧ l2 = ((W * T : Nat) : Int) ∧ l3 = ((s + 1 : Nat) : Int) ∧ l5 = 64 * ((s + 1 : Nat) : Int) ∧ l7 = (c : Int) ∧ s < 12 ∧ c ≤ W * T ∧ n = 1000 * (13 - s) - 200 - c ∧ lvFr M M' ∧ (∀ t, t ≤ s → lvRow (W * T) t (zf t) M') ∧ (∀ j, j < W * T → M' 140 j = gvF (X s) (tp s) W (W * T) j ∧ M' 141 j = gtF (cm s) v (X s) (tp s) W (W * T) (W * T) j) ∧ (∀ j, j < W * T → if j < c then M' 137 (64 * (s + 1) + j) = (zf (s + 1)).1 j ∧ M' 138 (64 * (s + 1) + j) = (zf (s + 1)).2.1 j ∧ M' 139 j = (zf (s + 1)).2.2 j else M' 137 (64 * (s + 1) + j) = on s j ∧ M' 138 (64 * (s + 1) + j) = (zf s).2.1 j ∧ M' 139 j = if 0 < X s j ∧ (zf s).2.2 j = 13 then ((s + 1 : Nat) : Int) else (zf s).2.2 j)) n' (w : Int) ((W * T : Nat) : Int) ((s + 1 : Nat) : Int) (64 * ((s + 1 : Nat) : Int)) ((c : Int) + 1) M43 := fun a1 =>
          nx M43 (fun x _ _ hx => d1 x hx) (fun j _ => ⟨by rw [d1 _ (by decide)], by rw [d1 _ (by decide)]⟩) d2 (by rw [d1 _ (by decide), m1, z1, if_neg a1]) (by rw [d1 _ (by decide), m2, z2, if_neg a1]) d4
        have e1 : M43 137 (64 * (s + 1) + c) = on s c := by rw [d1 _ (by decide), m1]
        have e2 : M43 140 c = V := by rw [d1 _ (by decide), g1]
        have e3 : M43 141 c = G := by rw [d1 _ (by decide), g2]
        rw [e1, e2, e3]
        refine ⟨i0, oR, fun q3 => absurd q3 (Int.ne_of_gt q1), fun q3 => ⟨i1, Vr, fun q4 => stay2 (fun a => absurd q4 (Int.not_lt.mpr a.2.2)), fun q4 => ⟨i1, Gr, fun q5 => ⟨i0, i0, ?_⟩, fun q5 => stay2 (fun a => absurd q5 (Int.not_lt.mpr a.2.1))⟩⟩⟩
        have := cool M43 d1 d2 ⟨q1, q5, q4⟩ d4
        rw [e1] at this
        exact this
