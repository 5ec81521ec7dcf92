/-! the class's lava: the small methods -/
theorem zcopy_r (M : zM) (a sp b dp n x y : Nat) : zcopy M a sp b dp n x y = if x = b ∧ dp ≤ y ∧ y < dp + n then M a (sp + (y - dp)) else M x y := by
  unfold zcopy
  by_cases h : x = b
  · subst h
    simp
  · simp [h]
theorem zcopy_ne (M : zM) {a sp b dp n x : Nat} (h : x ≠ b) : zcopy M a sp b dp n x = M x := by
  unfold zcopy
  rw [if_neg h]
theorem zfill_ne (M : zM) {a n x : Nat} {v : Int} (h : x ≠ a) : zfill M a n v x = M x := by
  unfold zfill
  rw [if_neg h]
theorem c_groundOf {E : zE} {M : zM} {Q : Int → zM → Prop} {c : Nat} (hc : c < 64) (hw : M 31 c = M 130 c + 2 * M 131 c) (hb : (M 130 c = 0 ∨ M 130 c = 1) ∧ (M 131 c = 0 ∨ M 131 c = 1)) (he : M 29 c = M 128 c) (h : Q (gr0 M c) M) : zP E mX1_groundOf [.inr (.inr 28), .inl (c : Int)] M Q := by
  refine vcX1_groundOf _ ?_
  have ce : (c : Int).toNat = c := Int.toNat_natCast c
  rw [ce, hw, he]
  unfold gr0 at h
  have k : ∀ x : Int, (x = 0 ∨ x = 1 ∨ x = 2 ∨ x = 3) → zR (zand x 1) ∧ zR (zand x 2) := by
    intro x hx
    rcases hx with rfl | rfl | rfl | rfl <;> exact ⟨zRd rfl, zRd rfl⟩
  obtain ⟨h1 | h1, h2 | h2⟩ := hb <;> rw [h1, h2] at h ⊢
  · refine ⟨by omega, by omega, zRd rfl, fun _ => ⟨by omega, zRd rfl, fun _ => ?_, fun q => absurd (by decide) q⟩, fun q => absurd (by decide) q⟩
    simpa using h
  · refine ⟨by omega, by omega, zRd rfl, fun _ => ⟨by omega, zRd rfl, fun q => absurd q (by decide), fun _ => ?_⟩, fun q => absurd (by decide) q⟩
    rw [if_pos rfl, if_neg (by decide)] at h
    rw [show M 128 c + -8 = M 128 c + 0 - 8 by omega]
    exact h
  · refine ⟨by omega, by omega, zRd rfl, fun q => absurd q (by decide), fun _ => ⟨by omega, zRd rfl, fun _ => ?_, fun q => absurd (by decide) q⟩⟩
    simpa using h
  · refine ⟨by omega, by omega, zRd rfl, fun q => absurd q (by decide), fun _ => ⟨by omega, zRd rfl, fun q => absurd q (by decide), fun _ => ?_⟩⟩
    rw [if_neg (by decide)] at h
    rw [show M 128 c + 8 + -8 = M 128 c + 8 - 8 by omega]
    exact h
theorem c_lowerOf {E : zE} {M : zM} {Q : Int → zM → Prop} {f W T c : Nat} {top : Nat → Int} {l1 l2 : Int} (k : Nat) (hf : zIs_0 (f : Int)) (h2 : 2 ≤ W) (h3 : 2 ≤ T) (hc : c < W * T) (hA : W * T ≤ 64) (htop : ∀ j, j < W * T → M (f + 4) j = top j ∧ zR (top j)) (hl : l1 = lowK top W (W * T) c k) (hn : l2 = bes W (W * T) c k) (h0 : 0 ≤ bes W (W * T) c k)
    (h : Q (lowK top W (W * T) c (k + 1)) M) : zP E mX0_lowerOf [.inr (.inr (f : Int)), .inl l1, .inl l2] M Q := by
  refine vcX0_lowerOf _ _ _ hf ?_
  obtain ⟨a1, a2, -⟩ := lowK_r (top := top) h2 h3 hc k
  have a3 := bes_lt h2 h3 hc k
  have un : lowK top W (W * T) c (k + 1) = if 0 ≤ bes W (W * T) c k ∧ (lowK top W (W * T) c k < 0 ∨ top (bes W (W * T) c k).toNat < top (lowK top W (W * T) c k).toNat) then bes W (W * T) c k else lowK top W (W * T) c k := rfl
  rw [un] at h
  rw [← hl] at a1 a2 h
  rw [← hn] at a3 h0 h
  have e4 : ((f : Int) + 4).toNat = f + 4 := by omega
  rw [e4]
  refine ⟨by unfold zR; omega, fun q => ?_, fun q => ?_⟩
  · rw [if_pos ⟨h0, Or.inl (by omega)⟩] at h
    exact h
  · obtain ⟨u1, u2⟩ := htop l2.toNat (by omega)
    obtain ⟨v1, v2⟩ := htop l1.toNat (by omega)
    rw [u1, v1]
    refine ⟨by omega, by omega, ⟨u2, v2⟩, fun q2 => ?_, fun q2 => ?_⟩
    · rw [if_neg (fun q3 => q3.2.elim (fun q4 => by omega) (fun q4 => by omega))] at h
      exact h
    · rw [if_pos ⟨h0, Or.inr q2⟩] at h
      exact h
set_option maxHeartbeats 4000000 in
theorem c_lowestBeside {E : zE} {M : zM} {Q : Int → zM → Prop} {f W T c : Nat} {top : Nat → Int} (hf : zIs_0 (f : Int)) (hW : M 28 0 = (W : Int)) (hT : M 28 1 = ((W * T : Nat) : Int)) (h2 : 2 ≤ W ∧ W ≤ 8) (h3 : 2 ≤ T) (hc : c < W * T) (hA : W * T ≤ 64) (htop : ∀ j, j < W * T → M (f + 4) j = top j ∧ zR (top j))
    (h : Q (low top W (W * T) c) M) : zP E mX0_lowestBeside [.inr (.inr (f : Int)), .inr (.inr 28), .inl (c : Int)] M Q := by
  obtain ⟨low1, low2⟩ := low_r (top := top) h2.1 h3 hc
  rw [← low1] at h
  have hWA : 2 * W ≤ W * T := by rw [Nat.mul_comm 2 W]; exact Nat.mul_le_mul_left W h3
  have fin : ∀ r, r = lowK top W (W * T) c 4 → ((zR r) ∧ ((¬ r = (-1) → Q r M) ∧ (r = (-1) → Q (c : Int) M))) := fun r hr => by
    rw [hr]
    exact ⟨by unfold zR; omega, fun _ => h, fun q => by omega⟩
  have e1 : Int.tmod (c : Int) (W : Int) = ((c % W : Nat) : Int) := rfl
  have e3 := Nat.mod_lt c (show 0 < W by omega)
  have st : ∀ k, lowK top W (W * T) c (k + 1) = if 0 ≤ bes W (W * T) c k ∧ (lowK top W (W * T) c k < 0 ∨ top (bes W (W * T) c k).toNat < top (lowK top W (W * T) c k).toNat) then bes W (W * T) c k else lowK top W (W * T) c k := fun k => rfl
  have sn : ∀ k, bes W (W * T) c k < 0 → lowK top W (W * T) c (k + 1) = lowK top W (W * T) c k := fun k hk => by rw [st, if_neg (fun q => absurd q.1 (Int.not_le.mpr hk))]
  have b0 : bes W (W * T) c 0 = (c : Int) - W := rfl
  have b1 : bes W (W * T) c 1 = if 0 < c % W then (c : Int) - 1 else -1 := rfl
  have b2 : bes W (W * T) c 2 = if c % W < W - 1 then (c : Int) + 1 else -1 := rfl
  have b3 : bes W (W * T) c 3 = if c + W < W * T then (c : Int) + W else -1 := rfl
  have s1 : lowK top W (W * T) c 1 = if W ≤ c then (c : Int) - W else -1 := by
    rw [st 0, b0]
    by_cases q : W ≤ c
    · rw [if_pos q, if_pos ⟨by omega, Or.inl (by unfold lowK; omega)⟩]
    · rw [if_neg q, if_neg (fun q2 => by omega)]
      rfl
  refine vcX0_lowestBeside _ _ hf ?_
  refine vcX1_column _ ?_
  rw [hW, hT, e1]
  refine ⟨by unfold zR; omega, fun q => by omega, fun _ => ⟨⟨by unfold zR; omega, by unfold zR; omega, by omega⟩, ?_⟩⟩
  have mle := Nat.mod_le c W
  generalize hm : c % W = m at *
  have z1 : zR (c : Int) ∧ zR (W : Int) := by unfold zR; omega
  have z2 : zR (m : Int) := by unfold zR; omega
  have z3 : zR (m : Int) ∧ zR ((W : Int) - 1) := by unfold zR; omega
  have z4 : zR ((c : Int) + W) ∧ zR ((W * T : Nat) : Int) := by unfold zR; omega
  -- the last neighbour
  have l4 : ∀ r, r = lowK top W (W * T) c 3 → ((zR ((c : Int) + (M 28 0)) ∧ zR (M 28 1)) ∧ (((M 28 1) ≤ ((c : Int) + (M 28 0)) → ((zR r) ∧ ((¬ r = (-1) → Q r M) ∧ (r = (-1) → Q (c : Int) M)))) ∧ (((c : Int) + (M 28 0)) < (M 28 1) → (zP E mX0_lowerOf [.inr (.inr (f : Int)), .inl r, .inl ((c : Int) + (M 28 0))] M (fun r7 M8 => ((zR r7) ∧ ((¬ r7 = (-1) → Q r7 M8) ∧ (r7 = (-1) → Q (c : Int) M8)))))))) := by
    intro r hr
    rw [hW, hT]
    refine ⟨z4, fun q => fin r ?_, fun q => ?_⟩
    · rw [sn 3 (by rw [b3, if_neg (by omega)]; decide)]
      exact hr
    · exact c_lowerOf 3 hf h2.1 h3 hc hA htop hr (by rw [b3, if_pos (by omega)]) (by rw [b3, if_pos (by omega)]; omega) (fin _ rfl)
  have l3 : ∀ r, r = lowK top W (W * T) c 2 → ((W : Int) - 1 ≤ (m : Int) → r = lowK top W (W * T) c 3) := by
    intro r hr q
    rw [sn 2 (by rw [b2, if_neg (by omega)]; decide)]
    exact hr
  have l3b : ∀ r, r = lowK top W (W * T) c 2 → (m : Int) < (W : Int) - 1 → zP E mX0_lowerOf [.inr (.inr (f : Int)), .inl r, .inl ((c : Int) + 1)] M (fun r5 M6 => ((zR ((c : Int) + (M6 28 0)) ∧ zR (M6 28 1)) ∧ (((M6 28 1) ≤ ((c : Int) + (M6 28 0)) → ((zR r5) ∧ ((¬ r5 = (-1) → Q r5 M6) ∧ (r5 = (-1) → Q (c : Int) M6)))) ∧ (((c : Int) + (M6 28 0)) < (M6 28 1) → (zP E mX0_lowerOf [.inr (.inr (f : Int)), .inl r5, .inl ((c : Int) + (M6 28 0))] M6 (fun r7 M8 => ((zR r7) ∧ ((¬ r7 = (-1) → Q r7 M8) ∧ (r7 = (-1) → Q (c : Int) M8))))))))) := by
    intro r hr q
    exact c_lowerOf 2 hf h2.1 h3 hc hA htop hr (by rw [b2, if_pos (by omega)]) (by rw [b2, if_pos (by omega)]; omega) (l4 _ rfl)
  have n2 : ∀ r, r = lowK top W (W * T) c 1 → (m : Int) ≤ 0 → r = lowK top W (W * T) c 2 := by
    intro r hr q
    rw [sn 1 (by rw [b1, if_neg (by omega)]; decide)]
    exact hr
  have p2 : ∀ (r : Int) (Q' : Int → zM → Prop), r = lowK top W (W * T) c 1 → 0 < (m : Int) → Q' (lowK top W (W * T) c 2) M → zP E mX0_lowerOf [.inr (.inr (f : Int)), .inl r, .inl ((c : Int) - 1)] M Q' := by
    intro r Q' hr q hq
    exact c_lowerOf 1 hf h2.1 h3 hc hA htop hr (by rw [b1, if_pos (by omega)]) (by rw [b1, if_pos (by omega)]; omega) hq
  rw [hW, hT] at l4
  refine ⟨z1, fun q => ?_, fun q => ?_⟩
  · have r1 : (-1 : Int) = lowK top W (W * T) c 1 := by rw [s1, if_neg (by omega)]
    refine ⟨z2, fun q1 => ⟨z3, fun q2 => ⟨z4, fun q3 => absurd q3 (Int.not_le.mpr (by omega)), fun q3 => ?_⟩, fun q2 => l3b _ (n2 _ r1 q1) q2⟩, fun q1 => p2 _ _ r1 q1 ?_⟩
    · exact ((l4 _ (l3 _ (n2 _ r1 q1) q2)).2.2 q3)
    · rw [hW, hT]
      exact ⟨z3, fun q2 => l4 _ (l3 _ rfl q2), fun q2 => l3b _ rfl q2⟩
  · have r1 : (c : Int) - W = lowK top W (W * T) c 1 := by rw [s1, if_pos (by omega)]
    refine ⟨z2, fun q1 => ⟨z3, fun q2 => l4 _ (l3 _ (n2 _ r1 q1) q2), fun q2 => l3b _ (n2 _ r1 q1) q2⟩, fun q1 => p2 _ _ r1 q1 ?_⟩
    rw [hW, hT]
    exact ⟨z3, fun q2 => l4 _ (l3 _ rfl q2), fun q2 => l3b _ rfl q2⟩
theorem c_give {E : zE} {M : zM} {Q : Int → zM → Prop} {f W A c : Nat} {X top : Nat → Int} {most : Int} (hf : zIs_0 (f : Int)) (hc : c < A) (hlow : low top W A c < A) (hA : A ≤ 64) (htop : ∀ j, j < A → M (f + 4) j = top j ∧ (-8 ≤ top j ∧ top j ≤ 3000)) (hm : most = X c) (hX : 0 < X c ∧ X c ≤ 3000)
    (h : ∀ M' : zM, (∀ x, x ≠ f + 5 → x ≠ f + 6 → M' x = M x) → (∀ j, M' (f + 5) j = M (f + 5) j - (if c = j then gvF X top W A c else 0) + (if low top W A c = j then gvF X top W A c else 0)) → (∀ j, M' (f + 6) j = if 0 < gvF X top W A c ∧ (c = j ∨ low top W A c = j) then 1 else M (f + 6) j) → Q 0 M') : zP E mX0_give [.inr (.inr (f : Int)), .inl (c : Int), .inl (low top W A c : Int), .inl most] M Q := by
  refine vcX0_give _ _ _ _ hf ?_
  have e4 : ((f : Int) + 4).toNat = f + 4 := by omega
  have e5 : ((f : Int) + 5).toNat = f + 5 := by omega
  have e6 : ((f : Int) + 6).toNat = f + 6 := by omega
  have gvu : gvF X top W A c = if X c ≤ 0 ∨ top c - top (low top W A c) < 2 then 0 else (if Int.tdiv (top c - top (low top W A c)) 2 < X c then Int.tdiv (top c - top (low top W A c)) 2 else X c) := rfl
  obtain ⟨u1, u2⟩ := htop c hc
  obtain ⟨v1, v2⟩ := htop _ hlow
  rw [gvu] at h
  generalize low top W A c = b at *
  have ce : (c : Int).toNat = c := Int.toNat_natCast c
  have be : (b : Int).toNat = b := Int.toNat_natCast b
  rw [e4, e5, e6, ce, be, u1, v1, hm]
  refine ⟨by omega, by omega, by unfold zR; omega, fun q => ?_, fun q => ?_⟩
  · rw [if_pos (Or.inr q)] at h
    exact h M (fun _ _ _ => rfl) (fun j => by simp) (fun j => by simp)
  · have td : 1 ≤ Int.tdiv (top c - top b) 2 ∧ Int.tdiv (top c - top b) 2 ≤ 3008 := by
      rw [Int.tdiv_eq_ediv_of_nonneg (by omega)]
      omega
    rw [if_neg (by omega)] at h
    generalize Int.tdiv (top c - top b) 2 = D at *
    have ge : (if X c < D then X c else D) = (if D < X c then D else X c) := by split <;> split <;> omega
    rw [ge]
    have gp : 0 < (if D < X c then D else X c) := by split <;> omega
    generalize (if D < X c then D else X c) = g at *
    refine ⟨by unfold zR; omega, ⟨by unfold zR; omega, by unfold zR; omega⟩, by omega, by omega, ?_⟩
    intro M1 h1
    refine ⟨by omega, by omega, ?_⟩
    intro M2 h2
    refine ⟨by omega, ?_⟩
    intro M3 h3
    refine ⟨by omega, ?_⟩
    intro M4 h4
    have n56 : f + 5 ≠ f + 6 := by omega
    have n65 : f + 6 ≠ f + 5 := by omega
    refine h M4 (fun x x1 x2 => ?_) (fun j => ?_) (fun j => ?_)
    · subst h4 h3 h2 h1
      rw [zup_ne _ _ _ x2, zup_ne _ _ _ x2, zup_ne _ _ _ x1, zup_ne _ _ _ x1]
    · subst h4 h3 h2 h1
      rw [zup_ne _ _ _ n56, zup_ne _ _ _ n56]
      by_cases k1 : c = j <;> by_cases k2 : b = j
      · subst k1; subst k2; simp [zup_r]
      · subst k1
        have k3 : ¬ c = b := fun q => k2 q.symm
        simp [zup_r, k2, k3]
      · subst k2
        have k3 : ¬ b = c := fun q => k1 q.symm
        simp [zup_r, k1, k3]
      · have k3 : ¬ j = c := fun q => k1 q.symm
        have k4 : ¬ j = b := fun q => k2 q.symm
        simp [zup_r, k1, k2, k3, k4]
    · have e : M4 (f + 6) j = if j = b then 1 else if j = c then 1 else M (f + 6) j := by
        subst h4 h3 h2 h1
        simp [zup_r]
      rw [e]
      by_cases k1 : c = j <;> by_cases k2 : b = j
      · rw [if_pos k2.symm, if_pos ⟨gp, Or.inl k1⟩]
      · rw [if_neg (fun q => k2 q.symm), if_pos k1.symm, if_pos ⟨gp, Or.inl k1⟩]
      · rw [if_pos k2.symm, if_pos ⟨gp, Or.inr k2⟩]
      · rw [if_neg (fun q => k2 q.symm), if_neg (fun q => k1 q.symm), if_neg (fun q => q.2.elim k1 k2)]
theorem c_rest {E : zE} {M : zM} {Q : Int → zM → Prop} {f c : Nat} {b s : Int} (hf : zIs_0 (f : Int)) (hc : c < 64) (hb : 0 ≤ b + c ∧ b + c < 832) (hs : zR s) (hm : zR (M (f + 6) c)) (hr : zR (M (f + 3) c))
    (h : ∀ M' : zM, (∀ x, x ≠ f + 1 → x ≠ f + 2 → x ≠ f + 3 → M' x = M x) → (∀ j, M' (f + 1) j = if M (f + 6) c = 0 ∧ j = (b + c).toNat then M (f + 1) j - 1 else M (f + 1) j) → (∀ j, M' (f + 2) j = if M (f + 6) c = 0 ∧ j = (b + c).toNat then M (f + 2) j + 1 else M (f + 2) j) → (∀ j, M' (f + 3) j = if j = c then (if s < M (f + 3) c then s else M (f + 3) c) else M (f + 3) j) → Q 0 M') : zP E mX0_rest [.inr (.inr (f : Int)), .inl b, .inl (c : Int), .inl s] M Q := by
  refine vcX0_rest _ _ _ _ hf ?_
  have e1 : ((f : Int) + 1).toNat = f + 1 := by omega
  have e2 : ((f : Int) + 2).toNat = f + 2 := by omega
  have e3 : ((f : Int) + 3).toNat = f + 3 := by omega
  have e6 : ((f : Int) + 6).toNat = f + 6 := by omega
  have ce : (c : Int).toNat = c := Int.toNat_natCast c
  rw [e1, e2, e3, e6, ce]
  have hc2 : (0 ≤ (c : Int) ∧ (c : Int) < 64) := by omega
  have n12 : f + 1 ≠ f + 2 := by omega
  have n13 : f + 1 ≠ f + 3 := by omega
  have n23 : f + 2 ≠ f + 3 := by omega
  have n21 : f + 2 ≠ f + 1 := by omega
  have n31 : f + 3 ≠ f + 1 := by omega
  have n32 : f + 3 ≠ f + 2 := by omega
  refine ⟨hc2, hm, fun q => ⟨hc2, ⟨hr, hs⟩, hc2, ?_⟩, fun q => ⟨hb, hb, ?_⟩⟩
  · intro M1 h1
    refine h M1 (fun x x1 x2 x3 => by subst h1; exact zup_ne _ _ _ x3) (fun j => ?_) (fun j => ?_) (fun j => ?_)
    · subst h1
      rw [zup_ne _ _ _ n13, if_neg (fun q2 => q q2.1)]
    · subst h1
      rw [zup_ne _ _ _ n23, if_neg (fun q2 => q q2.1)]
    · subst h1
      rw [zup_r, if_pos rfl]
  · intro M2 h2
    refine ⟨hb, hb, ?_⟩
    intro M3 h3
    have r3 : M3 (f + 3) c = M (f + 3) c := by
      subst h3 h2
      rw [zup_ne _ _ _ n32, zup_ne _ _ _ n31]
    rw [r3]
    refine ⟨hc2, ⟨hr, hs⟩, hc2, ?_⟩
    intro M4 h4
    refine h M4 (fun x x1 x2 x3 => by subst h4 h3 h2; rw [zup_ne _ _ _ x3, zup_ne _ _ _ x2, zup_ne _ _ _ x1]) (fun j => ?_) (fun j => ?_) (fun j => ?_)
    · subst h4 h3 h2
      rw [zup_ne _ _ _ n13, zup_ne _ _ _ n12, zup_r, if_pos rfl]
      by_cases k : j = (b + c).toNat
      · rw [if_pos k, if_pos ⟨q, k⟩, k]
      · rw [if_neg k, if_neg (fun q2 => k q2.2)]
    · subst h4 h3 h2
      rw [zup_ne _ _ _ n23, zup_r, if_pos rfl, zup_ne _ _ _ n21]
      by_cases k : j = (b + c).toNat
      · rw [if_pos k, if_pos ⟨q, k⟩, k]
      · rw [if_neg k, if_neg (fun q2 => k q2.2)]
    · subst h4
      rw [zup_r, if_pos rfl, h3, h2]
      rw [zup_ne _ _ _ n32, zup_ne _ _ _ n31]
