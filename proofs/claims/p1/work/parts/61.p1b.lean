/-! one call on fresh objects: the class -/
def cF (M : zM) : Prop := zFix M ∧ (M 0 0 = 0 ∧ M 0 2 = 6 ∧ M 0 3 = 13 ∧ M 0 6 = 0 ∧ M 0 7 = 0 ∧ M 0 11 = 0) ∧ (M 2 1 = 0) ∧
  (M 6 8 = 0 ∧ M 6 10 = 0 ∧ M 6 9 = 0) ∧ (M 20 1 = 0 ∧ M 20 6 = 0) ∧
  (M 28 0 = 4 ∧ M 28 1 = 16 ∧ M 28 5 = 0 ∧ M 28 7 = 0) ∧ (M 44 6 = 0 ∧ M 44 13 = 0) ∧ (M 1 1 = 0 ∧ M 1 2 = -1) ∧
  (∀ i, M 29 i = 0 ∧ M 30 i = 0 ∧ M 31 i = 0 ∧ M 32 i = 0 ∧ M 45 i = 0) ∧ (M 99 0 = 0 ∧ M 100 0 = 0 ∧ M 101 0 = 0)
set_option maxRecDepth 100000 in
theorem cF_a (i : Nat) : nM0 29 i = 0 ∧ nM0 30 i = 0 ∧ nM0 31 i = 0 ∧ nM0 32 i = 0 ∧ nM0 45 i = 0 := ⟨rfl, rfl, rfl, rfl, rfl⟩
set_option maxRecDepth 100000 in
theorem cF_0 : cF nM0 := ⟨by unfold zFix; decide +kernel, by decide +kernel, by decide +kernel, by decide +kernel, by decide +kernel, by decide +kernel, by decide +kernel, by decide +kernel, cF_a, by decide +kernel⟩
/-- the class's scratch: the raw rows, the warnings -/
theorem f_greatest {E : zE} {M : zM} {Q : Int → zM → Prop} {a k : Int} (hl : M 6 8 = 0) (h : Q 0 M) : zP E mX6_greatestLevel [.inr (.inr 6), .inr (.inr 20), .inl a, .inl k] M Q := by
  refine vcX6_greatestLevel _ a k (Or.inl rfl) (fun n l2 l3 l4 l5 M' => l4 = 0 ∧ l5 = 0 ∧ M' = M) ⟨0, rfl, rfl, rfl⟩ ?_
  rintro n l2 l3 l4 l5 M' ⟨rfl, rfl, rfl⟩
  have e : M' (Int.toNat 6) 8 = 0 := hl
  rw [e]
  exact ⟨⟨zRd rfl, zRd rfl⟩, fun _ => h, fun hc => by omega⟩
theorem g_raw {E : zE} {M : zM} {Q : Int → zM → Prop} {a k : Int} (ha : zR a) (hk : zR k) (hF : cF M) (h : Q (if (0 ≤ a ∧ a ≤ 99) ∧ (0 ≤ k ∧ k ≤ 99) then 0 else -1) M) : zP E mX11_raw [.inr (.inr 0), .inl a, .inl k] M Q := by
  refine vcX11_raw _ _ ?_
  refine c_isHour ha ?_
  refine ⟨by grind [zR], fun _ => by grind, fun _ => ?_⟩
  refine c_isHour hk ?_
  refine ⟨by grind [zR], fun _ => ?_, fun _ => by grind⟩
  rw [hF.2.1.2.1]
  refine ⟨Or.inl rfl, ?_⟩
  refine f_greatest hF.2.2.2.1.1 ?_
  rwa [if_pos (by grind)] at h
theorem g_tries {E : zE} {M : zM} {Q : Int → zM → Prop} {a b k : Int} (ha : zR a) (hF : cF M) (h : Q (-9223372036854775808) M) : zP E mX11_tries [.inr (.inr 0), .inl a, .inl b, .inl k] M Q := by
  refine vcX11_tries _ _ _ ?_
  rw [hF.2.1.2.1]
  refine ⟨Or.inl rfl, ?_⟩
  have e : M (Int.toNat 6) 8 = 0 := hF.2.2.2.1.1
  rw [e]
  refine c_within ha (zRd rfl) (zRd rfl) ?_
  rw [if_neg (by omega)]
  exact ⟨zRd rfl, fun _ => h, fun hc => absurd rfl hc⟩
theorem g_rawIn {E : zE} {M : zM} {Q : Int → zM → Prop} {a : Int} (ha : 0 ≤ a ∧ a ≤ 99) (hb : M 0 2 = 6) (hk : M 0 6 = 0) (hl : M 6 8 = 0) (h : ∀ M', rS M M' → Q 0 M') : zP E mX11_rawInOwnHour [.inr (.inr 0), .inl a] M Q := by
  refine vcX11_rawInOwnHour a (fun n l1 l2 M' => l1 = a ∧ 0 ≤ l2 ∧ l2 ≤ a + 1 ∧ n = 200 - l2.toNat ∧ M' 0 2 = 6 ∧ M' 6 8 = 0 ∧ (∀ i : Nat, i < l2.toNat → M' 27 i = 0) ∧ rS M M') ?_ ?_
  · rw [hk]
    exact ⟨200, rfl, by omega, by omega, rfl, hb, hl, fun i hi => by omega, rS_refl M⟩
  · rintro n l1 l2 M' ⟨rfl, a1, a2, rfl, g1, g2, g3, g4⟩
    refine ⟨⟨by grind [zR], by grind [zR]⟩, fun hc => ⟨by omega, ?_⟩, fun hc => ?_⟩
    · rw [g3 l1.toNat (by omega)]
      exact h M' g4
    · rw [g1]
      refine ⟨Or.inl rfl, ?_⟩
      refine f_greatest g2 ⟨by omega, ?_⟩
      rintro M4 rfl M5 rfl
      refine ⟨200 - (l2 + 1).toNat, by omega, rfl, by omega, by omega, rfl, by simpa [zup_r] using g1, by simpa [zup_r] using g2, fun i hi => ?_, rS_zup (by decide) (rS_zup (by decide) g4)⟩
      simp [zup_r]
      intro hi2
      exact g3 i (by omega)
theorem g_level {E : zE} {M : zM} {Q : Int → zM → Prop} {a : Int} (ha : zR a) (hF : cF M) (h : ∀ M', rS M M' → Q (if 0 ≤ a ∧ a ≤ 99 then 0 else -1) M') : zP E mX11_level [.inr (.inr 0), .inl a] M Q := by
  refine vcX11_level a (fun n l1 l2 l3 M' => l1 = a ∧ l2 = 0 ∧ (0 ≤ a ∧ a ≤ 99) ∧ rS M M' ∧ ((n = 1 ∧ l3 = a ∧ M' = M) ∨ (n = 0 ∧ l3 = a + 1))) ?_ ?_
  · refine c_isHour ha ?_
    refine ⟨by grind [zR], fun _ => ?_, fun _ => by have := h M (rS_refl M); grind⟩
    have e : M (Int.toNat 6) 10 = 0 := hF.2.2.2.1.2.1
    rw [hF.2.1.2.1, e]
    refine ⟨Or.inl rfl, by grind [zR], 1, rfl, rfl, by grind, rS_refl M, Or.inl ⟨rfl, by grind, rfl⟩⟩
  · rintro n l1 l2 l3 M' ⟨rfl, rfl, g1, g2, ⟨rfl, rfl, rfl⟩ | ⟨rfl, rfl⟩⟩
    · refine ⟨⟨ha, ha⟩, fun hc => by omega, fun _ => ?_⟩
      refine g_rawIn g1 hF.2.1.2.1 hF.2.1.2.2.2.1 hF.2.2.2.1.1 (fun M2 g3 => ⟨⟨zRd rfl, zRd rfl⟩, 0, by omega, rfl, rfl, g1, g3, Or.inr ⟨rfl, rfl⟩⟩)
    · refine ⟨⟨by grind [zR], ha⟩, fun _ => ?_, fun hc => by omega⟩
      have := h M' g2
      rwa [if_pos g1] at this
theorem g_note {E : zE} {M : zM} {Q : Int → zM → Prop} (hw : M 0 7 = 0) (hp : M 44 6 = 0) (h : Q 0 (zup (zfill M 50 8 (-1)) 0 7 1)) : zP E mX11_noteWarnings [.inr (.inr 0)] M Q := by
  refine vcX11_noteWarnings (fun n l1 M' => l1 = 0 ∧ M' = zfill M 50 8 (-1)) ?_ ?_
  · rw [hw]
    refine ⟨zRd rfl, fun _ => ?_, fun hc => absurd rfl hc⟩
    refine vcX3_forgetWarnings ?_
    rintro M1 rfl
    exact ⟨0, rfl, rfl⟩
  · rintro n l1 M' ⟨rfl, rfl⟩
    refine ⟨zRd rfl, fun hc => by omega, fun _ => ?_⟩
    refine vcX3_someUnwarned (fun n l M' => l = 0 ∧ M' = zfill M 50 8 (-1)) ⟨0, rfl, rfl⟩ ?_
    rintro n l M' ⟨rfl, rfl⟩
    have e : (zfill M 50 8 (-1)) 44 6 = 0 := by simpa [zfill_r] using hp
    rw [e]
    refine ⟨⟨zRd rfl, zRd rfl⟩, fun _ => ⟨zRd rfl, fun _ => ?_, fun hc => absurd rfl hc⟩, fun hc => by omega⟩
    rintro M6 rfl
    exact h
theorem g_lost {E : zE} {M : zM} {Q : Int → zM → Prop} (hw : M 0 11 = 0) (hp : M 44 6 = 0) (h : Q 0 M) : zP E mX11_lostCost [.inr (.inr 0)] M Q := by
  refine vcX11_lostCost (fun n l1 l2 l3 M' => l2 = 0 ∧ l3 = 0 ∧ M' = M) ?_ ?_
  · refine vcX3_allPeople (fun n l1 l2 M' => l1 = 0 ∧ l2 = 0 ∧ M' = M) ⟨0, rfl, rfl, rfl⟩ ?_
    rintro n l1 l2 M' ⟨rfl, rfl, rfl⟩
    rw [hp]
    exact ⟨⟨zRd rfl, zRd rfl⟩, fun _ => ⟨0, rfl, rfl, rfl⟩, fun hc => by omega⟩
  · rintro n l1 l2 l3 M' ⟨rfl, rfl, rfl⟩
    rw [hw]
    exact ⟨⟨zRd rfl, zRd rfl⟩, fun _ => h, fun hc => by omega⟩
theorem g_buried {E : zE} {M : zM} {Q : Int → zM → Prop} (hw : M 0 11 = 0) (h : Q 0 M) : zP E mX11_buriedCost [.inr (.inr 0)] M Q := by
  refine vcX11_buriedCost (fun n l1 l2 M' => l1 = 0 ∧ l2 = 0 ∧ M' = M) ⟨0, rfl, rfl, rfl⟩ ?_
  rintro n l1 l2 M' ⟨rfl, rfl, rfl⟩
  rw [hw]
  exact ⟨⟨zRd rfl, zRd rfl⟩, fun _ => h, fun hc => by omega⟩
theorem g_cost {E : zE} {M : zM} {Q : Int → zM → Prop} {a : Int} (ha : zR a) (hF : cF M) (h : ∀ M', rS M M' → Q (if 0 ≤ a ∧ a ≤ 1 then 0 else -1) M') : zP E mX11_cost [.inr (.inr 0), .inl a] M Q := by
  refine vcX11_cost _ ?_
  refine c_within ha (zRd rfl) (zRd rfl) ?_
  refine ⟨by grind [zR], fun _ => ?_, fun _ => by have := h M (rS_refl M); grind⟩
  refine g_note hF.2.1.2.2.2.2.1 hF.2.2.2.2.2.2.1.1 ?_
  have h9 := h (zup (zfill M 50 8 (-1)) 0 7 1) (rS_zup (by decide) (rS_fill (by decide) (rS_refl M)))
  rw [if_pos (by grind)] at h9
  have e1 : (zup (zfill M 50 8 (-1)) 0 7 1) 0 11 = 0 := by
    have := hF.2.1.2.2.2.2.2
    simpa [zup_r, zfill_r] using this
  have e2 : (zup (zfill M 50 8 (-1)) 0 7 1) 44 6 = 0 := by
    have := hF.2.2.2.2.2.2.1.1
    simpa [zup_r, zfill_r] using this
  exact ⟨ha, fun _ => g_buried e1 h9, fun _ => g_lost e1 e2 h9⟩
theorem g_best {E : zE} {M : zM} {Q : Int → zM → Prop} {a b : Int} (ha : zR a) (hb : zR b) (hF : cF M) (h : ∀ M', rS M M' → Q (if (0 ≤ a ∧ a ≤ 2) ∧ (0 ≤ b ∧ b ≤ 4) then (if b = 1 ∨ b = 2 then -1 else 0) else -1) M') : zP E mX11_best [.inr (.inr 0), .inl a, .inl b] M Q := by
  refine vcX11_best _ _ ?_
  refine c_within ha (zRd rfl) (zRd rfl) ?_
  refine ⟨by grind [zR], fun _ => by have := h M (rS_refl M); grind, fun _ => ?_⟩
  refine c_within hb (zRd rfl) (zRd rfl) ?_
  refine ⟨by grind [zR], fun _ => ⟨by grind, ?_⟩, fun _ => by have := h M (rS_refl M); grind⟩
  obtain ⟨p, hp, hid, hkn⟩ : ∃ p : Nat, M 66 a.toNat = p ∧ (p = 99 ∨ p = 100 ∨ p = 101) ∧ M p 0 = 0 := by
    obtain ⟨-, -, f1, f2, f3⟩ := hF.1
    obtain ⟨k1, k2, k3⟩ := hF.2.2.2.2.2.2.2.2.2
    have h9 : a.toNat = 0 ∨ a.toNat = 1 ∨ a.toNat = 2 := by grind
    rcases h9 with h9 | h9 | h9 <;> rw [h9]
    · exact ⟨_, f1, Or.inl rfl, k1⟩
    · exact ⟨_, f2, Or.inr (Or.inl rfl), k2⟩
    · exact ⟨_, f3, Or.inr (Or.inr rfl), k3⟩
  have hlt : p < 102 ∧ p ≠ 0 ∧ p ≠ 44 ∧ p ≠ 28 ∧ p ≠ 50 := by omega
  have hi4 : zIs_4 (p : Int) := by unfold zIs_4; omega
  rw [hp]
  refine ⟨hi4, ?_⟩
  rw [show ((p : Int)).toNat = p from Int.toNat_natCast p, hkn]
  refine ⟨zRd rfl, fun hc => absurd rfl hc, fun _ => ?_⟩
  refine g_note hF.2.1.2.2.2.2.1 hF.2.2.2.2.2.2.1.1 ?_
  have e1 : (zup (zfill M 50 8 (-1)) 0 7 1) 0 11 = 0 := by
    have := hF.2.1.2.2.2.2.2
    simpa [zup_r, zfill_r] using this
  have e2 : (zup (zfill M 50 8 (-1)) 0 7 1) 44 6 = 0 := by
    have := hF.2.2.2.2.2.2.1.1
    simpa [zup_r, zfill_r] using this
  refine g_lost e1 e2 ?_
  refine g_buried e1 ?_
  refine vcX4_start _ _ _ hi4 ?_
  rw [show ((p : Int)).toNat = p from Int.toNat_natCast p]
  rintro M1 rfl M2 rfl M3 rfl M4 rfl
  have e3 : M 28 7 = 0 := hF.2.2.2.2.2.1.2.2.2
  generalize hM4 : zup (zup (zup (zup (zup (zfill M 50 8 (-1)) 0 7 1) p 1 (-1)) p 2 (-1)) p 3 0) p 4 0 = M4
  have e4 : M4 28 7 = 0 := by
    rw [← hM4]
    simp [zup_r, zfill_r, hlt.2.2.2.1.symm]
    exact e3
  have e5 : M4 p 1 = -1 ∧ M4 p 2 = -1 ∧ M4 p 3 = 0 ∧ M4 p 4 = 0 := by
    rw [← hM4]
    simp [zup_r]
  have e6 : rS M M4 := by
    rw [← hM4]
    exact rS_zup hlt.1 (rS_zup hlt.1 (rS_zup hlt.1 (rS_zup hlt.1 (rS_zup (by decide) (rS_fill (by decide) (rS_refl M))))))
  refine vcX11_tryMoreWorks p a hi4 (fun n l2 l3 l4 M' => n = 1 ∧ l3 = 0 ∧ l4 = 0 ∧ M' = M4) (fun n l2 l3 l4 M' => n = 0 ∧ l3 = 0 ∧ l4 = 0 ∧ M' = M4) (fun n l2 l3 l4 l6 M' => False) ⟨1, rfl, by rw [e4]; rfl, rfl, rfl⟩ ?_ ?_ (fun _ _ _ _ _ _ h => h.elim)
  · rintro n l2 l3 l4 M' ⟨rfl, rfl, rfl, rfl⟩
    exact ⟨⟨zRd rfl, zRd rfl⟩, fun _ => ⟨0, by omega, rfl, rfl, rfl, rfl⟩, fun hc => by omega⟩
  · rintro n l2 l3 l4 M' ⟨rfl, rfl, rfl, rfl⟩
    refine ⟨⟨zRd rfl, zRd rfl⟩, fun _ => ?_, fun hc => by omega⟩
    rw [show ((p : Int)).toNat = p from Int.toNat_natCast p]
    rintro M7 rfl
    refine vcX4_part _ _ hi4 ?_
    rw [show ((p : Int)).toNat = p from Int.toNat_natCast p]
    have h9 := h (zup M' p 0 1) (rS_zup hlt.1 e6)
    rw [if_pos (by grind)] at h9
    simp only [zup_r]
    simp [e5]
    refine ⟨hb, fun hc => by grind, fun hc => ?_, fun hc => ?_, fun hc => ?_, fun hc => ?_, fun hc => ?_⟩
    · subst hc
      exact ⟨zRd rfl, by simpa using h9⟩
    all_goals (subst hc; simpa using h9)
theorem g_rules {E : zE} {M : zM} {Q : Int → zM → Prop} {a : Int} (ha : zR a) (hF : cF M) (h : ∀ M', rS M M' → Q (if a = 0 then 0 else -2) M') : zP E mX11_rules [.inr (.inr 0), .inl a] M Q := by
  refine vcX11_rules _ ?_
  rw [hF.2.2.1]
  refine ⟨ha, fun _ => by have := h M (rS_refl M); grind, fun _ => ⟨⟨ha, zRd rfl⟩, fun hc => ?_, fun _ => by have := h M (rS_refl M); grind⟩⟩
  have h0 : a = 0 := by omega
  subst h0
  rw [hF.2.1.2.2.1]
  refine vcX7_readBook _ _ (Or.inr rfl) (fun n l3 M' => n = 0 ∧ l3 = 0 ∧ (M' 2 3 = 0 ∧ M' 2 2 = 0 ∧ M' 1 3 = 0 ∧ M' 1 4 = 0 ∧ M' 0 6 = 0) ∧ zFix M' ∧ rS M M') ?_ ?_
  · refine vcX9_startText _ ?_
    rw [hF.2.2.1]
    refine ⟨⟨zRd rfl, zRd rfl⟩, zRd rfl, ?_⟩
    rintro M1 rfl M2 rfl M3 rfl
    refine vcX6_clear _ (Or.inr rfl) ?_
    rintro M4 rfl M5 rfl M6 rfl M7 rfl M8 rfl M9 rfl M10 rfl M11 rfl M12 rfl
    refine ⟨0, rfl, rfl, ?_, ?_, ?_⟩
    · have := hF.2.1.2.2.2.1
      simpa [zup_r] using this
    · have := hF.1
      simpa [zFix, zup_r] using this
    · repeat (first | exact rS_refl M | refine rS_zup (by decide) ?_)
  · rintro n l3 M' ⟨rfl, rfl, ⟨g1, g2, g3, g4, g5⟩, g6, g7⟩
    refine ⟨zRd rfl, fun hc => by omega, fun _ => ?_⟩
    refine vcX9_next (fun _ _ => False) ?_ (fun _ _ h => h.elim)
    rw [g1, g2]
    refine ⟨⟨zRd rfl, zRd rfl⟩, fun _ => ?_, fun hc => by omega⟩
    rintro M1 rfl
    have t1 : (zup M' 2 5 0) 2 3 = 0 := by simpa [zup_r] using g1
    have t2 : (zup M' 2 5 0) 2 2 = 0 := by simpa [zup_r] using g2
    rw [t1, t2]
    refine ⟨⟨zRd rfl, zRd rfl⟩, fun hc => by omega, fun _ => ?_⟩
    rintro M12 rfl
    have t3 : (zup (zup M' 2 5 0) 2 4 32) 2 4 = 32 := by simp [zup_r]
    have t4 : (zup (zup M' 2 5 0) 2 4 32) 1 3 = 0 := by simpa [zup_r] using g3
    have t5 : (zup (zup M' 2 5 0) 2 4 32) 1 4 = 0 := by simpa [zup_r] using g4
    rw [t3, t4, t5]
    refine ⟨zRd rfl, fun hc => absurd rfl hc, fun _ => ⟨zRd rfl, fun hc => absurd rfl hc, fun _ => ⟨zRd rfl, fun _ => ?_, fun hc => absurd hc (by decide)⟩⟩⟩
    rintro M3 rfl M4 rfl
    refine c_alertsChanged ?_ ?_ (zRd rfl) ?_
    · simpa [zFix, zup_r] using g6
    · simp [zup_r, g5]
      exact zRd rfl
    · suffices hh : Q (if (0 : Int) = 0 then 0 else -2) _ by simpa using hh
      exact h _ (rS_cAl (rS_zup (by decide) (rS_zup (by decide) (rS_zup (by decide) (rS_zup (by decide) g7)))))
