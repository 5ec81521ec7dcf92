/-! the class's lava: a step -/
def cvFr (f : Nat) (M M' : zM) : Prop := ∀ x, x ≠ f + 1 → x ≠ f + 2 → x ≠ f + 3 → x ≠ f + 4 → x ≠ f + 5 → x ≠ f + 6 → M' x = M x
def cvRow (f s : Nat) (M M' : zM) : Prop := ∀ j, j < 64 * (s + 1) → M' (f + 1) j = M (f + 1) j ∧ M' (f + 2) j = M (f + 2) j
set_option maxHeartbeats 8000000 in
theorem c_stepOnce {E : zE} {M : zM} {Q : Int → zM → Prop} {f g s W T v : Nat} {r l : Int} {z z' : zS3} {cm : Bool} (hf : zIs_0 (f : Int)) (hg : zIs_10 (g : Int)) (hs : s < 12) (hW : M 28 0 = (W : Int)) (hT : M 28 1 = ((W * T : Nat) : Int)) (h2 : 2 ≤ W ∧ W ≤ 8) (h3 : 2 ≤ T) (hA : W * T ≤ 64) (hv : M g 1 = (v : Int)) (hvl : v < W * T) (hr : M g 2 = r) (hr2 : 1 ≤ r ∧ r ≤ 99) (hl : M g 3 = l) (hl2 : 1 ≤ l ∧ l ≤ 12)
    (hz : lvOk v (W * T) s z) (hcm : cm = decide (((s + 1 : Nat) : Int) ≤ l)) (hz' : z' = stpF cm v r ((s + 1 : Nat) : Int) W (W * T) z) (hrow : ∀ j, j < W * T → M (f + 1) (64 * s + j) = z.1 j ∧ M (f + 2) (64 * s + j) = z.2.1 j ∧ M (f + 3) j = z.2.2 j)
    (h : ∀ M' : zM, cvFr f M M' → cvRow f s M M' → (∀ j, j < W * T → M' (f + 1) (64 * (s + 1) + j) = z'.1 j ∧ M' (f + 2) (64 * (s + 1) + j) = z'.2.1 j ∧ M' (f + 3) j = z'.2.2 j) → Q 0 M') : zP E mX0_stepOnce [.inr (.inr (f : Int)), .inr (.inr 28), .inr (.inr (g : Int)), .inl ((s + 1 : Nat) : Int)] M Q := by
  have e1 : ((f : Int) + 1).toNat = f + 1 := by omega
  have e2 : ((f : Int) + 2).toNat = f + 2 := by omega
  have e3 : ((f : Int) + 3).toNat = f + 3 := by omega
  have e4 : ((f : Int) + 4).toNat = f + 4 := by omega
  have e5 : ((f : Int) + 5).toNat = f + 5 := by omega
  have e6 : ((f : Int) + 6).toNat = f + 6 := by omega
  have eg : (g : Int).toNat = g := Int.toNat_natCast g
  have i0 : ((((s + 1 : Nat) : Int) * 64) - 64).toNat = 64 * s := by omega
  have i1 : (((s + 1 : Nat) : Int) * 64).toNat = 64 * (s + 1) := by omega
  have iA : (((W * T : Nat) : Int)).toNat = W * T := Int.toNat_natCast _
  have g0 : ∀ k, k ≤ 6 → 28 ≠ f + k ∧ g ≠ f + k := by
    intro k hk
    unfold zIs_0 at hf
    unfold zIs_10 at hg
    omega
  obtain ⟨X, hX⟩ : ∃ X : Nat → Int, X = xF cm v r z.1 := ⟨_, rfl⟩
  obtain ⟨tp, htp⟩ : ∃ tp : Nat → Int, tp = fun c => X c + z.2.1 c := ⟨_, rfl⟩
  obtain ⟨on, hon⟩ : ∃ on : Nat → Int, on = oneF cm v r W (W * T) z := ⟨_, rfl⟩
  have onr : ∀ c, on c = X c + gnF X tp W (W * T) (W * T) c := fun c => by rw [hon, htp, hX]; rfl
  have bd : ∀ c, c < W * T → (0 ≤ X c ∧ X c ≤ 1188) ∧ (0 ≤ on c ∧ on c ≤ 1188) ∧ (-8 ≤ tp c ∧ tp c ≤ 3000) := fun c hc => by
    obtain ⟨x0, xs, o0, os⟩ := one_r (cm := cm) h2.1 h3 hr2 hvl hz
    have q1 := sm_mem (fun i _ => x0 i) hc
    have q2 := sm_mem (fun i _ => o0 i) hc
    have q3 := hz.2.2.1 c
    have q4 := x0 c
    have q5 := o0 c
    rw [htp]
    show _ ∧ _ ∧ (-8 ≤ X c + z.2.1 c ∧ X c + z.2.1 c ≤ 3000)
    rw [hon, hX]
    have : ((s + 1 : Nat) : Int) ≤ 12 := by omega
    omega
  have frL : ∀ M', cvFr f M M' → M' 28 0 = (W : Int) ∧ M' 28 1 = ((W * T : Nat) : Int) ∧ M' g = M g := fun M' hq => by
    have a1 := hq 28 (g0 1 (by omega)).1 (g0 2 (by omega)).1 (g0 3 (by omega)).1 (g0 4 (by omega)).1 (g0 5 (by omega)).1 (g0 6 (by omega)).1
    have a2 := hq g (g0 1 (by omega)).2 (g0 2 (by omega)).2 (g0 3 (by omega)).2 (g0 4 (by omega)).2 (g0 5 (by omega)).2 (g0 6 (by omega)).2
    rw [a1]
    exact ⟨hW, hT, a2⟩
  have n12 : f + 1 ≠ f + 2 := by omega
  have n13 : f + 1 ≠ f + 3 := by omega
  have n14 : f + 1 ≠ f + 4 := by omega
  have n15 : f + 1 ≠ f + 5 := by omega
  have n16 : f + 1 ≠ f + 6 := by omega
  have n21 : f + 2 ≠ f + 1 := by omega
  have n23 : f + 2 ≠ f + 3 := by omega
  have n24 : f + 2 ≠ f + 4 := by omega
  have n25 : f + 2 ≠ f + 5 := by omega
  have n26 : f + 2 ≠ f + 6 := by omega
  have n31 : f + 3 ≠ f + 1 := by omega
  have n32 : f + 3 ≠ f + 2 := by omega
  have n34 : f + 3 ≠ f + 4 := by omega
  have n35 : f + 3 ≠ f + 5 := by omega
  have n36 : f + 3 ≠ f + 6 := by omega
  have n51 : f + 5 ≠ f + 1 := by omega
  have n53 : f + 5 ≠ f + 3 := by omega
  have n54 : f + 5 ≠ f + 4 := by omega
  have n56 : f + 5 ≠ f + 6 := by omega
  have n61 : f + 6 ≠ f + 1 := by omega
  have n63 : f + 6 ≠ f + 3 := by omega
  have n64 : f + 6 ≠ f + 4 := by omega
  refine vcX0_stepOnce _ _ _ hf hg (fun (n : Nat) (l3 l4 l5 : Int) (M' : zM) => ∃ c : Nat, l3 = ((s + 1 : Nat) : Int) ∧ l4 = ((s + 1 : Nat) : Int) * 64 ∧ l5 = (c : Int) ∧ c ≤ W * T ∧ n = 1000 - c ∧ cvFr f M M' ∧ cvRow f s M M' ∧ (∀ j, j < W * T → M' (f + 1) (64 * (s + 1) + j) = X j ∧ M' (f + 2) (64 * (s + 1) + j) = z.2.1 j) ∧ (∀ j, j < 64 → M' (f + 5) j = 0 ∧ M' (f + 6) j = mvF cm v X tp W (W * T) 0 j) ∧ (∀ j, M' (f + 3) j = if cm = true ∧ j = v then 1 else M (f + 3) j) ∧ (∀ j, j < c → M' (f + 4) j = tp j)) (fun (n : Nat) (l3 l4 l5 : Int) (M' : zM) => ∃ c : Nat, l3 = ((s + 1 : Nat) : Int) ∧ l4 = ((s + 1 : Nat) : Int) * 64 ∧ l5 = (c : Int) ∧ c ≤ W * T ∧ n = 800 - c ∧ cvFr f M M' ∧ cvRow f s M M' ∧ (∀ j, j < W * T → M' (f + 1) (64 * (s + 1) + j) = X j ∧ M' (f + 2) (64 * (s + 1) + j) = z.2.1 j) ∧ (∀ j, j < 64 → M' (f + 5) j = gnF X tp W (W * T) c j ∧ M' (f + 6) j = mvF cm v X tp W (W * T) c j) ∧ (∀ j, M' (f + 3) j = if cm = true ∧ j = v then 1 else M (f + 3) j) ∧ (∀ j, j < W * T → M' (f + 4) j = tp j)) (fun (n : Nat) (l3 l4 l5 : Int) (M' : zM) => ∃ c : Nat, l3 = ((s + 1 : Nat) : Int) ∧ l4 = ((s + 1 : Nat) : Int) * 64 ∧ l5 = (c : Int) ∧ c ≤ W * T ∧ n = 600 - c ∧ cvFr f M M' ∧ cvRow f s M M' ∧ (∀ j, j < 64 → M' (f + 5) j = gnF X tp W (W * T) (W * T) j ∧ M' (f + 6) j = mvF cm v X tp W (W * T) (W * T) j) ∧ (∀ j, j < W * T → if j < c then M' (f + 1) (64 * (s + 1) + j) = z'.1 j ∧ M' (f + 2) (64 * (s + 1) + j) = z'.2.1 j ∧ M' (f + 3) j = z'.2.2 j else M' (f + 1) (64 * (s + 1) + j) = X j ∧ M' (f + 2) (64 * (s + 1) + j) = z.2.1 j ∧ M' (f + 3) j = if cm = true ∧ j = v then 1 else z.2.2 j)) ?_ ?_ ?_ ?_
  · rw [hT, e1, e2, e3, e5, e6, i0, i1, iA, eg]
    refine ⟨by omega, ?_⟩
    intro M1 h1
    have l1 : M1 28 1 = ((W * T : Nat) : Int) := by rw [h1, zcopy_ne _ (g0 1 (by omega)).1]; exact hT
    rw [l1, iA]
    refine ⟨by omega, ?_⟩
    intro M2 h2'
    intro M3 h3'
    intro M4 h4
    have fr4 : ∀ x, x ≠ f + 1 → x ≠ f + 2 → x ≠ f + 5 → x ≠ f + 6 → M4 x = M x := fun x x1 x2 x5 x6 => by rw [h4, zfill_ne _ x6, h3', zfill_ne _ x5, h2', zcopy_ne _ x2, h1, zcopy_ne _ x1]
    have m4g : M4 g = M g := fr4 g (g0 1 (by omega)).2 (g0 2 (by omega)).2 (g0 5 (by omega)).2 (g0 6 (by omega)).2
    have m41 : ∀ y, M4 (f + 1) y = if 64 * (s + 1) ≤ y ∧ y < 64 * (s + 1) + W * T then M (f + 1) (64 * s + (y - 64 * (s + 1))) else M (f + 1) y := fun y => by
      rw [h4, zfill_ne _ n16, h3', zfill_ne _ n15, h2', zcopy_ne _ n12, h1, zcopy_r]
      simp
    have m42 : ∀ y, M4 (f + 2) y = if 64 * (s + 1) ≤ y ∧ y < 64 * (s + 1) + W * T then M (f + 2) (64 * s + (y - 64 * (s + 1))) else M (f + 2) y := fun y => by
      rw [h4, zfill_ne _ n26, h3', zfill_ne _ n25, h2', zcopy_r, h1, zcopy_ne _ n21]
      simp
    have m45 : ∀ j, j < 64 → M4 (f + 5) j = 0 := fun j hj => by
      rw [h4, zfill_ne _ n56, h3', zfill_r, if_pos ⟨rfl, hj⟩]
    have m46 : ∀ j, j < 64 → M4 (f + 6) j = 0 := fun j hj => by
      rw [h4, zfill_r, if_pos ⟨rfl, hj⟩]
    have m43 : M4 (f + 3) = M (f + 3) := fr4 _ n31 n32 n35 n36
    have r1 : ∀ j, j < W * T → M4 (f + 1) (64 * (s + 1) + j) = z.1 j ∧ M4 (f + 2) (64 * (s + 1) + j) = z.2.1 j := fun j hj => by
      rw [m41, m42, if_pos (by omega), if_pos (by omega), show 64 * s + (64 * (s + 1) + j - 64 * (s + 1)) = 64 * s + j by omega]
      exact ⟨(hrow j hj).1, (hrow j hj).2.1⟩
    clear h1 h2' h3' h4
    rw [m4g, hv, hr, hl]
    have iv : (((s + 1 : Nat) : Int) * 64 + (v : Int)).toNat = 64 * (s + 1) + v := by omega
    have vt : (v : Int).toNat = v := Int.toNat_natCast v
    refine ⟨⟨by unfold zR; omega, by unfold zR; omega⟩, fun q => ?_, fun q => ⟨by omega, by omega, ?_⟩⟩
    · have hc0 : cm = false := by rw [hcm]; simp; omega
      refine ⟨1000 - 0, 0, rfl, rfl, rfl, by omega, rfl, fun x x1 x2 x3 x4 x5 x6 => fr4 x x1 x2 x5 x6, fun j hj => ?_, fun j hj => ?_, fun j hj => ?_, fun j => ?_, fun j hj => by omega⟩
      · rw [m41, m42, if_neg (by omega), if_neg (by omega)]
        exact ⟨rfl, rfl⟩
      · rw [(r1 j hj).1, (r1 j hj).2, hX]
        exact ⟨by simp [xF, hc0], rfl⟩
      · rw [m45 j hj, m46 j hj]
        exact ⟨rfl, by simp [mvF, hc0]⟩
      · rw [m43, hc0]
        simp
    · have hc0 : cm = true := by rw [hcm]; simp; omega
      rw [iv]
      intro M5 h5
      have m5g : M5 g = M g := by rw [h5, zup_ne _ _ _ (g0 1 (by omega)).2, m4g]
      rw [m5g, hv, vt]
      refine ⟨by omega, ?_⟩
      intro M6 h6
      have m6g : M6 g = M g := by rw [h6, zup_ne _ _ _ (g0 6 (by omega)).2, m5g]
      rw [m6g, hv, vt]
      refine ⟨by omega, ?_⟩
      intro M7 h7
      refine ⟨1000 - 0, 0, rfl, rfl, rfl, by omega, rfl, fun x x1 x2 x3 x4 x5 x6 => ?_, fun j hj => ?_, fun j hj => ?_, fun j hj => ?_, fun j => ?_, fun j hj => by omega⟩
      · rw [h7, zup_ne _ _ _ x3, h6, zup_ne _ _ _ x6, h5, zup_ne _ _ _ x1]
        exact fr4 x x1 x2 x5 x6
      · rw [h7, zup_ne _ _ _ n13, h6, zup_ne _ _ _ n16, zup_ne _ _ _ n23, zup_ne _ _ _ n26, h5, zup_ne _ _ _ n21, zup_r, if_pos rfl, if_neg (by omega), m41, m42, if_neg (by omega), if_neg (by omega)]
        exact ⟨rfl, rfl⟩
      · rw [h7, zup_ne _ _ _ n13, h6, zup_ne _ _ _ n16, zup_ne _ _ _ n23, zup_ne _ _ _ n26, h5, zup_ne _ _ _ n21, zup_r, if_pos rfl, (r1 j hj).1, (r1 j hj).2, (r1 v hvl).1, hX]
        refine ⟨?_, rfl⟩
        by_cases hjv : j = v
        · subst hjv
          simp [xF, hc0]
        · rw [if_neg (by omega)]
          simp [xF, hjv]
      · rw [h7, zup_ne _ _ _ n53, zup_ne _ _ _ n63, h6, zup_ne _ _ _ n56, h5, zup_ne _ _ _ n51, m45 j hj, zup_r, if_pos rfl, zup_ne _ _ _ n61, m46 j hj]
        exact ⟨rfl, by simp [mvF, hc0]⟩
      · rw [h7, zup_r, if_pos rfl, h6, zup_ne _ _ _ n36, h5, zup_ne _ _ _ n31, m43, hc0]
        simp
  · rintro n l3 l4 l5 M' ⟨c, rfl, rfl, rfl, hc, rfl, hfr, hro, hlr, hgm, hre, htops⟩
    obtain ⟨q1, q2, q3⟩ := frL M' hfr
    rw [q2, e1, e2, e4]
    refine ⟨⟨by unfold zR; omega, by unfold zR; omega⟩, fun q => ?_, fun q => ⟨by omega, by omega, by omega, ?_⟩⟩
    · exact ⟨800 - 0, by omega, 0, rfl, rfl, rfl, by omega, rfl, hfr, hro, hlr, fun j hj => ⟨by rw [(hgm j hj).1]; rfl, (hgm j hj).2⟩, hre, fun j hj => htops j (by omega)⟩
    · have ie : (((s + 1 : Nat) : Int) * 64 + (c : Int)).toNat = 64 * (s + 1) + c := by omega
      have ce : (c : Int).toNat = c := Int.toNat_natCast c
      rw [ie, ce, (hlr c (by omega)).1, (hlr c (by omega)).2]
      intro M8 h8
      refine ⟨1000 - (c + 1), by omega, c + 1, rfl, rfl, by omega, by omega, rfl, fun x x1 x2 x3 x4 x5 x6 => ?_, fun j hj => ?_, fun j hj => ?_, fun j hj => ?_, fun j => ?_, fun j hj => ?_⟩
      · rw [h8, zup_ne _ _ _ x4]
        exact hfr x x1 x2 x3 x4 x5 x6
      · rw [h8, zup_ne _ _ _ n14, zup_ne _ _ _ n24]
        exact hro j hj
      · rw [h8, zup_ne _ _ _ n14, zup_ne _ _ _ n24]
        exact hlr j hj
      · rw [h8, zup_ne _ _ _ n54, zup_ne _ _ _ n64]
        exact hgm j hj
      · rw [h8, zup_ne _ _ _ n34]
        exact hre j
      · rw [h8, zup_r, if_pos rfl]
        by_cases k : j = c
        · rw [if_pos k, k, htp]
          exact Int.add_comm _ _
        · rw [if_neg k]
          exact htops j (by omega)
  · rintro n l3 l4 l5 M' ⟨c, rfl, rfl, rfl, hc, rfl, hfr, hro, hlr, hgm, hre, htops⟩
    obtain ⟨q1, q2, q3⟩ := frL M' hfr
    rw [q2, e1]
    refine ⟨⟨by unfold zR; omega, by unfold zR; omega⟩, fun q => ?_, fun q => ⟨by omega, ?_⟩⟩
    · have hcA : c = W * T := by omega
      subst hcA
      refine ⟨600 - 0, by omega, 0, rfl, rfl, rfl, by omega, rfl, hfr, hro, hgm, fun j hj => ?_⟩
      rw [if_neg (by omega), hre j, (hrow j hj).2.2]
      exact ⟨(hlr j hj).1, (hlr j hj).2, rfl⟩
    · have ie : (((s + 1 : Nat) : Int) * 64 + (c : Int)).toNat = 64 * (s + 1) + c := by omega
      have cA : c < W * T := by omega
      have bc := bd c cA
      rw [ie, (hlr c cA).1]
      have un1 : ∀ j, gnF X tp W (W * T) (c + 1) j = gnF X tp W (W * T) c j - (if c = j then gvF X tp W (W * T) c else 0) + (if low tp W (W * T) c = j then gvF X tp W (W * T) c else 0) := fun j => rfl
      have un2 : ∀ j, mvF cm v X tp W (W * T) (c + 1) j = if 0 < gvF X tp W (W * T) c ∧ (c = j ∨ low tp W (W * T) c = j) then 1 else mvF cm v X tp W (W * T) c j := fun j => rfl
      refine ⟨by unfold zR; omega, fun q4 => ?_, fun q4 => ?_⟩
      · have g0' : gvF X tp W (W * T) c = 0 := by unfold gvF; rw [if_pos (Or.inl q4)]
        refine ⟨800 - (c + 1), by omega, c + 1, rfl, rfl, by omega, by omega, rfl, hfr, hro, hlr, fun j hj => ?_, hre, htops⟩
        rw [(hgm j hj).1, (hgm j hj).2, un1, un2, g0']
        simp
      · refine c_lowestBeside hf q1 q2 h2 h3 cA hA (top := tp) (fun j hj => ⟨htops j hj, by have := bd j hj; unfold zR; omega⟩) ?_
        refine ⟨by omega, ?_⟩
        rw [(hlr c cA).1]
        refine c_give (X := X) (A := W * T) hf cA (low_r h2.1 h3 cA).2 hA (fun j hj => ⟨htops j hj, (bd j hj).2.2⟩) rfl (by omega) ?_
        intro M9 k1 k2 k3
        refine ⟨800 - (c + 1), by omega, c + 1, rfl, rfl, by omega, by omega, rfl, fun x x1 x2 x3 x4 x5 x6 => ?_, fun j hj => ?_, fun j hj => ?_, fun j hj => ?_, fun j => ?_, fun j hj => ?_⟩
        · rw [k1 x x5 x6]
          exact hfr x x1 x2 x3 x4 x5 x6
        · rw [k1 _ n15 n16, k1 _ n25 n26]
          exact hro j hj
        · rw [k1 _ n15 n16, k1 _ n25 n26]
          exact hlr j hj
        · rw [k2, k3, un1, un2, (hgm j hj).1, (hgm j hj).2]
          exact ⟨rfl, rfl⟩
        · rw [k1 _ n35 n36]
          exact hre j
        · rw [k1 _ n54.symm (by omega)]
          exact htops j hj
  · rintro n l3 l4 l5 M' ⟨c, rfl, rfl, rfl, hc, rfl, hfr, hro, hgm, hall⟩
    obtain ⟨q1, q2, q3⟩ := frL M' hfr
    rw [q2, e1, e5]
    refine ⟨⟨by unfold zR; omega, by unfold zR; omega⟩, fun q => ?_, fun q => ⟨by omega, by omega, by omega, ?_⟩⟩
    · have hcA : c = W * T := by omega
      subst hcA
      refine h M' hfr hro (fun j hj => ?_)
      have := hall j hj
      rw [if_pos hj] at this
      exact this
    · have ie : (((s + 1 : Nat) : Int) * 64 + (c : Int)).toNat = 64 * (s + 1) + c := by omega
      have ce : (c : Int).toNat = c := Int.toNat_natCast c
      have cA : c < W * T := by omega
      have bc := bd c cA
      have hme := hall c cA
      rw [if_neg (by omega)] at hme
      obtain ⟨m1, m2, m3⟩ := hme
      obtain ⟨g1, g2⟩ := hgm c (by omega)
      rw [ie, ce, m1, g1, ← onr]
      have okc := hz.2.2.2.1 c
      have ok5 := hz.2.2.2.2.1 c
      have ok6 := hz.2.2.2.2.2
      have o2 := mvF_gt cm v X tp W (W * T) (W * T) c
      have w1 : coolF cm v r W (W * T) z c = (decide (0 < on c) && decide (mvF cm v X tp W (W * T) (W * T) c = 0)) := by rw [hon, htp, hX]; rfl
      have z1 : z'.1 c = if 0 < on c ∧ mvF cm v X tp W (W * T) (W * T) c = 0 then on c - 1 else on c := by
        rw [hz', stpF_1, w1, hon]
        simp
      have z2 : z'.2.1 c = if 0 < on c ∧ mvF cm v X tp W (W * T) (W * T) c = 0 then z.2.1 c + 1 else z.2.1 c := by
        rw [hz', stpF_2, w1]
        simp
      have xe : X c = z.1 c + (if cm = true ∧ c = v then r else 0) := by rw [hX]; rfl
      have z3 : z'.2.2 c = if cm = true ∧ c = v then 1 else if 0 < on c ∧ z.2.2 c = 13 then ((s + 1 : Nat) : Int) else z.2.2 c := by
        have e : z'.2.2 c = if (0 < X c ∨ 0 < on c) ∧ z.2.2 c = 13 then ((s + 1 : Nat) : Int) else z.2.2 c := by rw [hz', stpF_3, hon, hX]
        rw [e]
        by_cases k : cm = true ∧ c = v
        · rw [if_pos k]
          obtain ⟨ka, kb⟩ := k
          subst kb
          rw [if_pos ⟨ka, rfl⟩] at xe
          have z0 := hz.1 c
          by_cases hs0 : s = 0
          · subst hs0
            rw [if_pos ⟨Or.inl (by omega), by omega⟩]
            rfl
          · have := ok6 (by omega)
            rw [if_neg (by omega)]
            exact this
        · rw [if_neg k]
          rw [if_neg k] at xe
          by_cases k2 : 0 < on c ∧ z.2.2 c = 13
          · rw [if_pos k2, if_pos ⟨Or.inr k2.1, k2.2⟩]
          · rw [if_neg k2, if_neg (fun q5 => q5.1.elim (fun q6 => ok5 (by omega) q5.2) (fun q6 => k2 ⟨q6, q5.2⟩))]
      clear ok5 ok6
      have oR : zR (on c) := by unfold zR; omega
      have ib : (0 ≤ ((s + 1 : Nat) : Int) * 64 + (c : Int) ∧ ((s + 1 : Nat) : Int) * 64 + (c : Int) < 832) := by omega
      have s3 : 1 ≤ (if cm = true ∧ c = v then 1 else z.2.2 c) ∧ (if cm = true ∧ c = v then 1 else z.2.2 c) ≤ 13 := by
        by_cases k : cm = true ∧ c = v
        · rw [if_pos k]; decide
        · rw [if_neg k]; omega
      have sR : zR (M' (f + 3) c) := by rw [m3]; unfold zR; omega
      have mR : zR (M' (f + 6) c) := by
        rw [g2]
        rcases o2.1 with q5 | q5 <;> rw [q5] <;> exact zRd rfl
      intro M13 h13
      have v1 : M13 (f + 1) (64 * (s + 1) + c) = on c := by rw [h13, zup_r, if_pos rfl, if_pos rfl]
      have fr13 : ∀ x, x ≠ f + 1 → M13 x = M' x := fun x hx => by rw [h13, zup_ne _ _ _ hx]
      have ot13 : ∀ j, j ≠ 64 * (s + 1) + c → M13 (f + 1) j = M' (f + 1) j := fun j hj => by rw [h13, zup_r, if_pos rfl, if_neg hj]
      clear h13
      have nx : ∀ M2 : zM, (∀ x, x ≠ f + 1 → x ≠ f + 2 → x ≠ f + 3 → M2 x = M' x) → (∀ j, j ≠ 64 * (s + 1) + c → M2 (f + 1) j = M' (f + 1) j ∧ M2 (f + 2) j = M' (f + 2) j) → (∀ j, j ≠ c → M2 (f + 3) j = M' (f + 3) j) → M2 (f + 1) (64 * (s + 1) + c) = z'.1 c → M2 (f + 2) (64 * (s + 1) + c) = z'.2.1 c → M2 (f + 3) c = z'.2.2 c → ∃ n', n' < 600 - c ∧ (fun (n : Nat) (l3 l4 l5 : Int) (M' : zM) => ∃ c : Nat, l3 = ((s + 1 : Nat) : Int) ∧ l4 = ((s + 1 : Nat) : Int) * 64 ∧ l5 = (c : Int) ∧ c ≤ W * T ∧ n = 600 - c ∧ cvFr f M M' ∧ cvRow f s M M' ∧ (∀ j, j < 64 → M' (f + 5) j = gnF X tp W (W * T) (W * T) j ∧ M' (f + 6) j = mvF cm v X tp W (W * T) (W * T) j) ∧ (∀ j, j < W * T → if j < c then M' (f + 1) (64 * (s + 1) + j) = z'.1 j ∧ M' (f + 2) (64 * (s + 1) + j) = z'.2.1 j ∧ M' (f + 3) j = z'.2.2 j else M' (f + 1) (64 * (s + 1) + j) = X j ∧ M' (f + 2) (64 * (s + 1) + j) = z.2.1 j ∧ M' (f + 3) j = if cm = true ∧ j = v then 1 else z.2.2 j)) n' ((s + 1 : Nat) : Int) (((s + 1 : Nat) : Int) * 64) ((c : Int) + 1) M2 := by
        intro M2 k1 k2 k3 k4 k5 k6
        refine ⟨600 - (c + 1), by omega, c + 1, rfl, rfl, by omega, by omega, rfl, fun x x1 x2 x3 x4 x5 x6 => ?_, fun j hj => ?_, fun j hj => ?_, fun j hj => ?_⟩
        · rw [k1 x x1 x2 x3]
          exact hfr x x1 x2 x3 x4 x5 x6
        · have n2 : j ≠ 64 * (s + 1) + c := by omega
          rw [(k2 _ n2).1, (k2 _ n2).2]
          exact hro j hj
        · rw [k1 _ n51 (by omega) n53, k1 _ n61 (by omega) n63]
          exact hgm j hj
        · by_cases hjc : j = c
          · subst hjc
            rw [if_pos (by omega)]
            exact ⟨k4, k5, k6⟩
          · have n2 : 64 * (s + 1) + j ≠ 64 * (s + 1) + c := by omega
            have := hall j hj
            rw [(k2 _ n2).1, (k2 _ n2).2, k3 j hjc]
            by_cases hj2 : j < c
            · rw [if_pos hj2] at this
              rw [if_pos (by omega)]
              exact this
            · rw [if_neg hj2] at this
              rw [if_neg (by omega)]
              exact this
      rw [v1]
      refine ⟨ib, oR, fun q5 => ?_, fun q5 => ?_⟩
      · have k : ¬ (0 < on c ∧ mvF cm v X tp W (W * T) (W * T) c = 0) := fun q6 => absurd q6.1 (Int.not_lt.mpr q5)
        refine nx M13 (fun x x1 _ _ => fr13 x x1) (fun j hj => ⟨ot13 j hj, by rw [fr13 _ n21]⟩) (fun j _ => by rw [fr13 _ n31]) ?_ ?_ ?_
        · rw [v1, z1, if_neg k]
        · rw [fr13 _ n21, m2, z2, if_neg k]
        · rw [fr13 _ n31, m3, z3]
          by_cases k2 : cm = true ∧ c = v
          · rw [if_pos k2, if_pos k2]
          · rw [if_neg k2, if_neg k2, if_neg (fun q6 => absurd q6.1 (Int.not_lt.mpr q5))]
      · refine c_rest hf (by omega) ib (by unfold zR; omega) (by rw [fr13 _ n61]; exact mR) (by rw [fr13 _ n31]; exact sR) ?_
        intro M14 k1 k2 k3 k4
        rw [ie, fr13 _ n61, g2] at k2 k3
        rw [fr13 _ n31, m3] at k4
        refine nx M14 (fun x x1 x2 x3 => by rw [k1 x x1 x2 x3, fr13 x x1]) (fun j hj => ⟨?_, ?_⟩) (fun j hj => ?_) ?_ ?_ ?_
        · rw [k2, if_neg (fun q6 => hj q6.2), ot13 j hj]
        · rw [k3, if_neg (fun q6 => hj q6.2), fr13 _ n21]
        · rw [k4, if_neg hj]
        · rw [k2, z1, v1]
          by_cases k : mvF cm v X tp W (W * T) (W * T) c = 0
          · rw [if_pos ⟨k, rfl⟩, if_pos ⟨q5, k⟩]
          · rw [if_neg (fun q6 => k q6.1), if_neg (fun q6 => k q6.2)]
        · rw [k3, z2, fr13 _ n21, m2]
          by_cases k : mvF cm v X tp W (W * T) (W * T) c = 0
          · rw [if_pos ⟨k, rfl⟩, if_pos ⟨q5, k⟩]
          · rw [if_neg (fun q6 => k q6.1), if_neg (fun q6 => k q6.2)]
        · rw [k4, if_pos rfl, z3]
          by_cases k2 : cm = true ∧ c = v
          · rw [if_pos k2, if_pos k2, if_neg (by omega)]
          · rw [if_neg k2, if_neg k2]
            by_cases k5 : z.2.2 c = 13
            · rw [if_pos (by omega), if_pos ⟨q5, k5⟩]
            · rw [if_neg (by omega), if_neg (fun q6 => k5 q6.2)]
