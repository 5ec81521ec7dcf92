/-! the class: roads, works, candidates, the tape, look -/
theorem c_road {E : zE} {M : zM} {Q : Int → zM → Prop} {a b n cp e c : Int} (h1 : zR a) (h2 : zR b) (h3 : zR n) (h4 : zR cp) (h5 : zR e) (h6 : zR c) (hf : zFix M) (hc0 : 0 ≤ M 28 1 ∧ M 28 1 ≤ 64) (hn : 0 ≤ M 44 6 ∧ M 44 6 ≤ 8) (hr : 0 ≤ M 44 13 ∧ M 44 13 ≤ 14)
    (h : if (0 ≤ a ∧ a < M 44 6) ∧ (0 ≤ b ∧ b < M 44 6) ∧ a ≠ b ∧ (1 ≤ n ∧ n ≤ 5) ∧ (1 ≤ cp ∧ cp ≤ 999) ∧ (1 ≤ e ∧ e ≤ 6) ∧ (c = -1 ∨ (0 ≤ c ∧ c < M 28 1)) then
      (if M 44 13 < 14 then Q (M 44 13) (zup (zup (zup (zup (zup (zup (zup (cEs M) 51 (M 44 13).toNat a) 52 (M 44 13).toNat b) 53 (M 44 13).toNat n) 54 (M 44 13).toNat cp) 55 (M 44 13).toNat e) 56 (M 44 13).toNat c) 44 13 (M 44 13 + 1)) else Q (-1) (cEs M)) else Q (-1) M) : zP E mX11_road [.inr (.inr 0), .inl a, .inl b, .inl n, .inl cp, .inl e, .inl c] M Q := by
  have key : ((1 ≤ n ∧ n ≤ 5) ∧ (1 ≤ cp ∧ cp ≤ 999) ∧ (1 ≤ e ∧ e ≤ 6) → (if M 44 13 < 14 then Q (M 44 13) (zup (zup (zup (zup (zup (zup (zup (cEs M) 51 (M 44 13).toNat a) 52 (M 44 13).toNat b) 53 (M 44 13).toNat n) 54 (M 44 13).toNat cp) 55 (M 44 13).toNat e) 56 (M 44 13).toNat c) 44 13 (M 44 13 + 1)) else Q (-1) (cEs M))) → (¬ ((1 ≤ n ∧ n ≤ 5) ∧ (1 ≤ cp ∧ cp ≤ 999) ∧ (1 ≤ e ∧ e ≤ 6)) → Q (-1) M) →
      zP E mX11_within [.inl n, .inl 1, .inl 5] M (fun r5 M6 => ((zR r5) ∧ ((r5 = 0 → Q (-1) M6) ∧ (¬ r5 = 0 → (zP E mX11_within [.inl cp, .inl 1, .inl 999] M6 (fun r7 M8 => ((zR r7) ∧ ((r7 = 0 → Q (-1) M8) ∧ (¬ r7 = 0 → (zP E mX11_within [.inl e, .inl 1, .inl 6] M8 (fun r9 M10 => ((zR r9) ∧ ((¬ r9 = 0 → (zP E mX11_escapeChanged [.inr (.inr 0)] M10 (fun r11 M12 => (zP E mX3_addRoad [.inr (.inr 44), .inl a, .inl b, .inl n, .inl cp, .inl e, .inl c] M12 (fun r13 M14 => Q r13 M14))))) ∧ (r9 = 0 → Q (-1) M10)))))))))))))) := by
    intro g1 g2
    refine c_within h3 (zRd rfl) (zRd rfl) ?_
    refine ⟨by grind [zR], fun _ => by grind, fun _ => ?_⟩
    refine c_within h4 (zRd rfl) (zRd rfl) ?_
    refine ⟨by grind [zR], fun _ => by grind, fun _ => ?_⟩
    refine c_within h5 (zRd rfl) (zRd rfl) ?_
    refine ⟨by grind [zR], fun _ => ?_, fun _ => by grind⟩
    have g1 := g1 (by grind)
    refine c_escapeChanged hf ?_
    have e0 : cEs M 44 13 = M 44 13 := by simp [cEs, cPl, zup_r]
    refine vcX3_addRoad _ _ _ _ _ _ ?_
    rw [e0]
    refine ⟨by grind [zR], fun hb => ?_, fun hb => ?_⟩
    · rw [if_pos hb] at g1
      simp [zup_r, e0]
      simpa [hr, hb] using g1
    · rw [if_neg (by omega)] at g1
      exact g1
  refine vcX11_road _ _ _ _ _ _ ?_
  refine c_phas h1 hn ?_
  refine ⟨by grind [zR], fun _ => by grind, fun _ => ?_⟩
  refine c_phas h2 hn ?_
  refine ⟨by grind [zR], fun _ => by grind, fun _ => ⟨⟨h1, h2⟩, fun _ => by grind, fun _ => ⟨h6, fun _ => ?_, fun _ => ?_⟩⟩⟩
  · refine key (fun g => ?_) (fun g => ?_)
    · rw [if_pos (by grind)] at h
      exact h
    · rw [if_neg (by grind)] at h
      exact h
  · refine c_lhas h6 hc0 ?_
    refine ⟨by grind [zR], fun _ => ?_, fun _ => by grind⟩
    refine key (fun g => ?_) (fun g => ?_)
    · rw [if_pos (by grind)] at h
      exact h
    · rw [if_neg (by grind)] at h
      exact h
def zbit (t : Int) : Int := if t = 0 then 1 else 2
/-- a cell's work of a kind, out of the class's one number -/
def whas (x t : Int) : Prop := if t = 0 then x = 1 ∨ x = 3 else x = 2 ∨ x = 3
theorem zand_w {x t : Int} (hx : 0 ≤ x ∧ x ≤ 3) : (zand x (zbit t) = 0 ↔ ¬ whas x t) ∧ zR (zand x (zbit t)) := by
  have h4 : x = 0 ∨ x = 1 ∨ x = 2 ∨ x = 3 := by omega
  unfold zbit whas
  by_cases ht : t = 0 <;> simp only [ht, if_true, if_false] <;> rcases h4 with rfl | rfl | rfl | rfl <;> (constructor <;> first | decide | (unfold zR; decide))
theorem c_lhasWork {E : zE} {M : zM} {Q : Int → zM → Prop} {c t : Int} (h1 : zR c) (ht : t = 0 ∨ t = 1) (hc0 : 0 ≤ M 28 1 ∧ M 28 1 ≤ 64) (hw : ∀ i, 0 ≤ M 31 i ∧ M 31 i ≤ 3) (h : ((0 ≤ c ∧ c < M 28 1) ∧ whas (M 31 c.toNat) t → Q 1 M) ∧ (¬ ((0 ≤ c ∧ c < M 28 1) ∧ whas (M 31 c.toNat) t) → Q 0 M)) : zP E mX1_hasWork [.inr (.inr 28), .inl c, .inl t] M Q := by
  refine vcX1_hasWork _ _ ?_
  refine c_lhas h1 hc0 ?_
  refine ⟨by grind [zR], fun _ => h.2 (by grind), fun _ => ⟨by grind, ?_⟩⟩
  refine vcX1_bit _ ?_
  have z := @zand_w (M 31 c.toNat) t (hw _)
  have hcc : 0 ≤ c ∧ c < M 28 1 := by grind
  refine ⟨by grind [zR], fun g => ?_, fun g => ?_⟩
  · have hb : zbit t = 1 := by simp [zbit, g]
    rw [hb] at z
    exact ⟨z.2, fun q => h.2 (fun k => (z.1.mp q) k.2), fun q => h.1 ⟨hcc, Classical.not_not.mp (fun k => q (z.1.mpr k))⟩⟩
  · have hb : zbit t = 2 := by simp [zbit, g]
    rw [hb] at z
    exact ⟨z.2, fun q => h.2 (fun k => (z.1.mp q) k.2), fun q => h.1 ⟨hcc, Classical.not_not.mp (fun k => q (z.1.mpr k))⟩⟩
theorem c_mayPut {E : zE} {M : zM} {Q : Int → zM → Prop} {c t : Int} (h1 : zR c) (ht : t = 0 ∨ t = 1) (hc0 : 0 ≤ M 28 1 ∧ M 28 1 ≤ 64) (hw : ∀ i, 0 ≤ M 31 i ∧ M 31 i ≤ 3) (hh : ∀ i, zR (M 30 i)) (hk : zR (M 28 5))
    (h : ((0 ≤ c ∧ c < M 28 1) ∧ ¬ whas (M 31 c.toNat) t ∧ M 30 c.toNat = 0 ∧ M 28 5 < 4 → Q 1 M) ∧ (¬ ((0 ≤ c ∧ c < M 28 1) ∧ ¬ whas (M 31 c.toNat) t ∧ M 30 c.toNat = 0 ∧ M 28 5 < 4) → Q 0 M)) : zP E mX1_mayPut [.inr (.inr 28), .inl c, .inl t] M Q := by
  refine vcX1_mayPut _ _ ?_
  refine c_lhas h1 hc0 ?_
  refine ⟨by grind [zR], fun _ => h.2 (by grind), fun _ => ?_⟩
  refine c_lhasWork h1 ht hc0 hw ⟨fun g => ?_, fun g => ?_⟩
  · exact ⟨zRd rfl, fun _ => h.2 (fun k => k.2.1 g.2), fun q => absurd q (by decide)⟩
  · refine ⟨zRd rfl, fun q => absurd rfl q, fun _ => ⟨by grind, hh _, fun q => h.2 (fun k => q k.2.2.1), fun q => ⟨hk, fun q2 => h.2 (fun k => by omega), fun q2 => h.1 ⟨by grind, ?_, q, q2⟩⟩⟩⟩
    intro k
    exact g ⟨by grind, k⟩
/-- what a setWork leaves in the class's number -/
def wset (x t : Int) : Int := zxor x (zbit t)
theorem c_setWork {E : zE} {M : zM} {Q : Int → zM → Prop} {c t o : Int} (h1 : 0 ≤ c ∧ c < 64) (ht : t = 0 ∨ t = 1) (ho : o = 0 ∨ o = 1) (h : Q 0 (zup (zup M 31 c.toNat (wset (M 31 c.toNat) t)) 28 5 (M 28 5 + (if o = 0 then -1 else 1)))) : zP E mX1_setWork [.inr (.inr 28), .inl c, .inl t, .inl o] M Q := by
  refine vcX1_setWork _ _ _ ⟨h1, ?_⟩
  refine vcX1_bit _ ?_
  refine ⟨by grind [zR], fun g => ⟨h1, ?_⟩, fun g => ⟨h1, ?_⟩⟩
  · have hb : zbit t = 1 := by simp [zbit, g]
    unfold wset at h
    rw [hb] at h
    rintro M3 rfl
    refine ⟨by grind [zR], fun g2 => ?_, fun g2 => ?_⟩
    · rintro M4 rfl
      simpa [zup_r, g2] using h
    · rintro M4 rfl
      simpa [zup_r, g2] using h
  · have hb : zbit t = 2 := by simp [zbit, g]
    unfold wset at h
    rw [hb] at h
    rintro M3 rfl
    refine ⟨by grind [zR], fun g2 => ?_, fun g2 => ?_⟩
    · rintro M4 rfl
      simpa [zup_r, g2] using h
    · rintro M4 rfl
      simpa [zup_r, g2] using h
theorem c_work {E : zE} {M : zM} {Q : Int → zM → Prop} {c t o : Int} (h1 : zR c) (ht : t = 0 ∨ t = 1) (ho : o = 0 ∨ o = 1) (hf : zFix M) (hc0 : 0 ≤ M 28 1 ∧ M 28 1 ≤ 64) (hw : ∀ i, 0 ≤ M 31 i ∧ M 31 i ≤ 3) (hh : ∀ i, zR (M 30 i)) (hk : zR (M 28 5))
    (h : ((0 ≤ c ∧ c < M 28 1) ∧ (if o = 1 then ¬ whas (M 31 c.toNat) t ∧ M 30 c.toNat = 0 ∧ M 28 5 < 4 else whas (M 31 c.toNat) t) → Q 1 (cLv (zup (zup M 31 c.toNat (wset (M 31 c.toNat) t)) 28 5 (M 28 5 + (if o = 0 then -1 else 1)))))
      ∧ (¬ ((0 ≤ c ∧ c < M 28 1) ∧ (if o = 1 then ¬ whas (M 31 c.toNat) t ∧ M 30 c.toNat = 0 ∧ M 28 5 < 4 else whas (M 31 c.toNat) t)) → Q 0 M)) : zP E mX11_work [.inr (.inr 0), .inl c, .inl t, .inl o] M Q := by
  have hl2 : ∀ x y, zFix (zup (zup M 31 c.toNat x) 28 5 y) := fun x y => by simpa [zFix, zup_r] using hf
  refine vcX11_work _ _ _ ?_
  rcases ho with rfl | rfl
  · refine ⟨zRd rfl, fun _ => ?_, fun q => absurd rfl q⟩
    refine c_lhasWork h1 ht hc0 hw ⟨fun g => ?_, fun g => ?_⟩
    · refine ⟨zRd rfl, fun q => absurd q (by decide), fun _ => ?_⟩
      refine c_setWork (by omega) ht (Or.inl rfl) ?_
      refine c_lavaChanged (hl2 _ _) ⟨Or.inr rfl, ?_⟩
      exact h.1 ⟨g.1, by simpa using g.2⟩
    · exact ⟨zRd rfl, fun _ => ⟨Or.inl rfl, h.2 (fun k => g ⟨k.1, by simpa using k.2⟩)⟩, fun q => absurd rfl q⟩
  · refine ⟨zRd rfl, fun q => absurd q (by decide), fun _ => ?_⟩
    refine c_mayPut h1 ht hc0 hw hh hk ⟨fun g => ?_, fun g => ?_⟩
    · refine ⟨zRd rfl, fun q => absurd q (by decide), fun _ => ?_⟩
      refine c_setWork (by omega) ht (Or.inr rfl) ?_
      refine c_lavaChanged (hl2 _ _) ⟨Or.inr rfl, ?_⟩
      exact h.1 ⟨g.1, by simpa using g.2⟩
    · exact ⟨zRd rfl, fun _ => ⟨Or.inl rfl, h.2 (fun k => g ⟨k.1, by simpa using k.2⟩)⟩, fun q => absurd rfl q⟩
theorem c_candidate {E : zE} {M : zM} {Q : Int → zM → Prop} {c : Int} (h1 : zR c) (hf : zFix M) (hc0 : 0 ≤ M 28 1 ∧ M 28 1 ≤ 64) (hn : 0 ≤ M 28 7 ∧ M 28 7 ≤ 6) (hc : ∀ i, zR (M 32 i))
    (h : ((0 ≤ c ∧ c < M 28 1) ∧ M 28 7 < 6 ∧ (∀ i : Nat, (i : Int) < M 28 7 → M 32 i ≠ c) → Q (M 28 7) (cPl (zup (zup M 32 (M 28 7).toNat c) 28 7 (M 28 7 + 1))))
      ∧ (¬ ((0 ≤ c ∧ c < M 28 1) ∧ M 28 7 < 6 ∧ (∀ i : Nat, (i : Int) < M 28 7 → M 32 i ≠ c)) → Q (-1) M)) : zP E mX11_candidate [.inr (.inr 0), .inl c] M Q := by
  refine vcX11_candidate _ ?_
  refine vcX1_addCandidate c (fun n l1 l2 M' => M' = M ∧ l1 = c ∧ 0 ≤ l2 ∧ l2 ≤ M 28 7 ∧ n = 10 - l2.toNat ∧ (0 ≤ c ∧ c < M 28 1) ∧ M 28 7 < 6 ∧ (∀ i : Nat, (i : Int) < l2 → M 32 i ≠ c)) ?_ ?_
  · refine c_lhas h1 hc0 ?_
    refine ⟨by grind [zR], fun _ => ⟨zRd rfl, fun _ => h.2 (by grind), fun q => absurd rfl q⟩, fun _ => ⟨by grind [zR], fun g => ?_, fun g => ⟨zRd rfl, fun _ => h.2 (by omega), fun q => absurd rfl q⟩⟩⟩
    exact ⟨10, rfl, rfl, by omega, hn.1, rfl, by grind, g, fun i hi => by omega⟩
  · rintro n l1 l2 M' ⟨rfl, rfl, a1, a2, rfl, a3, a4, a5⟩
    refine ⟨⟨by grind [zR], by grind [zR]⟩, fun g => ⟨by omega, ?_⟩, fun g => ⟨by omega, ⟨hc _, h1⟩, fun g2 => ?_, fun g2 => ?_⟩⟩
    · rintro M3 rfl M4 rfl
      have e1 : (zup (zup M' 32 (M' 28 7).toNat l1) 28 7 (zup M' 32 (M' 28 7).toNat l1 28 7 + 1)) 28 7 - 1 = M' 28 7 := by
        simp [zup_r]
      rw [e1]
      refine ⟨by grind [zR], fun q => by omega, fun _ => ?_⟩
      refine c_forgetPlans (by simpa [zFix, zup_r] using hf) ?_
      have e2 : zup M' 32 (M' 28 7).toNat l1 28 7 = M' 28 7 := by simp [zup_r]
      rw [e2]
      exact h.1 ⟨a3, a4, fun i hi => a5 i (by omega)⟩
    · refine ⟨10 - (l2 + 1).toNat, by omega, rfl, rfl, by omega, by omega, rfl, a3, a4, fun i hi => ?_⟩
      by_cases hi2 : (i : Int) < l2
      · exact a5 i hi2
      · have : i = l2.toNat := by omega
        rw [this]
        exact g2
    · exact ⟨zRd rfl, fun _ => h.2 (fun k => k.2.2 l2.toNat (by omega) g2), fun q => absurd rfl q⟩
theorem c_append {E : zE} {M : zM} {Q : Int → zM → Prop} {w : Int} (hs : 0 ≤ M 2 1 ∧ M 2 1 ≤ 496)
    (h : ∀ M' : zM, (∀ x, x ≠ 2 → x ≠ 3 → M' x = M x) → (∀ j, M' 2 j = if j = 1 then M 2 1 + 4 else M 2 j) → (∀ i : Nat, M' 3 i = if (M 2 1).toNat ≤ i ∧ i < (M 2 1).toNat + 4 then zand (zushr w (24 - 8 * (i - M 2 1))) 255 else M 3 i) → Q 0 M') : zP E mX9_append [.inr (.inr 2), .inl w] M Q := by
  refine vcX9_append w (fun n l1 l2 M' => l1 = w ∧ n ≤ 4 ∧ l2 = 8 * (n : Int) - 8 ∧ (∀ x, x ≠ 2 → x ≠ 3 → M' x = M x) ∧ (∀ j, M' 2 j = if j = 1 then M 2 1 + (4 - n) else M 2 j) ∧ (∀ i : Nat, M' 3 i = if (M 2 1).toNat ≤ i ∧ i < (M 2 1).toNat + (4 - n) then zand (zushr w (24 - 8 * (i - M 2 1))) 255 else M 3 i)) ?_ ?_
  · refine ⟨4, rfl, by omega, by omega, fun x _ _ => rfl, fun j => ?_, fun i => ?_⟩
    · by_cases hj : j = 1
      · rw [if_pos hj, hj]; simp
      · rw [if_neg hj]
    · rw [if_neg (by omega)]
  · rintro n l1 l2 M' ⟨rfl, a1, rfl, a2, a3, a4⟩
    have e1 : M' 2 1 = M 2 1 + (4 - n) := by rw [a3, if_pos rfl]
    refine ⟨by grind [zR], fun g => ?_, fun g => ⟨by rw [e1]; grind [zR], fun g2 => by omega, fun g2 => ⟨by omega, ?_⟩⟩⟩
    · have hn : n = 0 := by omega
      subst hn
      exact h M' a2 (fun j => by rw [a3]; simp) (fun i => by rw [a4])
    · rintro M1 rfl M2 rfl
      refine ⟨n - 1, by omega, rfl, by omega, by omega, fun x b1 b2 => ?_, fun j => ?_, fun i => ?_⟩
      · rw [zup_ne _ _ _ b1, zup_ne _ _ _ b2, a2 x b1 b2]
      · have b3 := a3 j
        simp only [zup_r]
        simp
        by_cases hj : j = 1
        · rw [if_pos hj, if_pos hj, e1]
          omega
        · rw [if_neg hj, if_neg hj, b3, if_neg hj]
      · have b4 := a4 i
        simp only [zup_r, e1]
        simp
        by_cases hi : i = (M 2 1 + (4 - n)).toNat
        · rw [if_pos hi, if_pos (by omega)]
          congr 2
          omega
        · rw [if_neg hi, b4]
          by_cases hi2 : (M 2 1).toNat ≤ i ∧ i < (M 2 1).toNat + (4 - n)
          · rw [if_pos hi2, if_pos (by omega)]
          · rw [if_neg hi2, if_neg (by omega)]
