/-! the class: land, works, worlds, places, roads, the tape -/
theorem zfill_r (M : zM) (a n : Nat) (v : Int) (x y : Nat) : zfill M a n v x y = if x = a ∧ y < n then v else M x y := by
  unfold zfill
  by_cases h : x = a
  · subst h
    by_cases h2 : y < n <;> simp [h2]
  · simp [h]
def cLay (M : zM) (w l : Int) : zM := zup (zup (zfill (zfill (zfill (zup (zup M 28 0 w) 28 1 (w * l)) 29 64 0) 30 64 0) 31 64 0) 28 5 0) 28 7 0
theorem c_land {E : zE} {M : zM} {Q : Int → zM → Prop} {w l : Int} (h1 : zR w) (h2 : zR l) (hf : zFix M)
    (h : if (2 ≤ w ∧ w ≤ 8) ∧ (2 ≤ l ∧ l ≤ 8) then Q 1 (cLv (zup (zup (zup (cLay M w l) 0 11 0) 44 6 0) 44 13 0)) else Q 0 M) : zP E mX11_land [.inr (.inr 0), .inl w, .inl l] M Q := by
  refine vcX11_land _ _ ?_
  refine vcX1_lay _ _ ?_
  refine c_within h1 (zRd rfl) (zRd rfl) ?_
  refine ⟨by grind [zR], fun _ => ⟨zRd rfl, fun hc => absurd rfl hc, fun _ => by grind⟩, fun _ => ?_⟩
  refine c_within h2 (zRd rfl) (zRd rfl) ?_
  refine ⟨by grind [zR], fun _ => ?_, fun _ => ⟨zRd rfl, fun hc => absurd rfl hc, fun _ => by grind⟩⟩
  rw [if_pos (by grind)] at h
  rintro M5 rfl M6 rfl M7 rfl M8 rfl M9 rfl M10 rfl M11 rfl
  refine ⟨zRd rfl, fun _ => ?_, fun hc => absurd hc (by decide)⟩
  rintro M12 rfl
  refine vcX3_clear ?_
  rintro M13 rfl M14 rfl
  refine c_lavaChanged ?_ h
  simpa [zFix, zup_r, zfill_r] using hf
theorem c_ground {E : zE} {M : zM} {Q : Int → zM → Prop} {c hh n : Int} (h1 : zR c) (h2 : zR hh) (h3 : zR n) (hf : zFix M) (hc0 : 0 ≤ M 28 1 ∧ M 28 1 ≤ 64) (hw : ∀ i, zR (M 31 i))
    (h : if (0 ≤ c ∧ c < M 28 1) ∧ (0 ≤ hh ∧ hh ≤ 999) ∧ (0 ≤ n ∧ n ≤ 99) ∧ (n = 0 ∨ M 31 c.toNat = 0) then Q 1 (cLv (zup (zup M 29 c.toNat hh) 30 c.toNat n)) else Q 0 M) : zP E mX11_ground [.inr (.inr 0), .inl c, .inl hh, .inl n] M Q := by
  have key : ∀ Q0 : Int → zM → Prop, (∀ r M', Q0 r M' → Q0 r M') → (if (0 ≤ c ∧ c < M 28 1) ∧ (0 ≤ hh ∧ hh ≤ 999) ∧ (0 ≤ n ∧ n ≤ 99) ∧ (n = 0 ∨ M 31 c.toNat = 0) then Q0 1 (zup (zup M 29 c.toNat hh) 30 c.toNat n) else Q0 0 M) → zP E mX1_build [.inr (.inr 28), .inl c, .inl hh, .inl n] M Q0 := by
    intro Q0 _ h
    refine vcX1_build _ _ _ ?_
    refine c_lhas h1 hc0 ?_
    refine ⟨by grind [zR], fun _ => by grind, fun _ => ?_⟩
    refine c_within h2 (zRd rfl) (zRd rfl) ?_
    refine ⟨by grind [zR], fun _ => by grind, fun _ => ?_⟩
    refine c_within h3 (zRd rfl) (zRd rfl) ?_
    refine ⟨by grind [zR], fun _ => ⟨h3, fun _ => ⟨by grind, ?_⟩, fun _ => ⟨by grind, hw _, fun hz => ⟨by grind, ?_⟩, fun _ => by grind⟩⟩, fun _ => by grind⟩
    · rw [if_pos (by grind)] at h
      rintro M7 rfl
      refine ⟨by grind, ?_⟩
      rintro M8 rfl
      exact h
    · rw [if_pos (by grind)] at h
      rintro M7 rfl
      refine ⟨by grind, ?_⟩
      rintro M8 rfl
      exact h
  refine vcX11_ground _ _ _ ?_
  refine key _ (fun _ _ h => h) ?_
  split
  · rename_i hh
    rw [if_pos hh] at h
    refine ⟨zRd rfl, fun hc => absurd hc (by decide), fun _ => ?_⟩
    refine c_lavaChanged ?_ ⟨Or.inr rfl, h⟩
    simpa [zFix, zup_r] using hf
  · rename_i hh
    rw [if_neg hh] at h
    exact ⟨zRd rfl, fun _ => ⟨Or.inl rfl, h⟩, fun hc => absurd rfl hc⟩
theorem c_world {E : zE} {M : zM} {Q : Int → zM → Prop} {s v r l w : Int} (h1 : zR s) (h2 : zR v) (h3 : zR r) (h4 : zR l) (h5 : zR w) (hf : zFix M) (hc0 : 0 ≤ M 28 1 ∧ M 28 1 ≤ 64) (hn : 0 ≤ M 0 11 ∧ M 0 11 ≤ 3)
    (h : if M 0 11 < 3 ∧ (0 ≤ s ∧ s ≤ 99) ∧ (0 ≤ v ∧ v < M 28 1) ∧ (1 ≤ r ∧ r ≤ 99) ∧ (1 ≤ l ∧ l ≤ 12) ∧ (1 ≤ w ∧ w ≤ 99) then
      ∀ a : Nat, M 33 (M 0 11).toNat = a → (a = 69 ∨ a = 79 ∨ a = 89) → Q (M 0 11) (cLv (zup (zup (zup (zup (zup (zup M a 0 s) a 1 v) a 2 r) a 3 l) a 4 w) 0 11 (M 0 11 + 1))) else Q (-1) M) : zP E mX11_world [.inr (.inr 0), .inl s, .inl v, .inl r, .inl l, .inl w] M Q := by
  refine vcX11_world _ _ _ _ _ ?_
  refine ⟨by grind [zR], fun _ => by grind, fun _ => ?_⟩
  refine c_isHour h1 ?_
  refine ⟨by grind [zR], fun _ => by grind, fun _ => ?_⟩
  refine c_lhas h2 hc0 ?_
  refine ⟨by grind [zR], fun _ => ?_, fun _ => by grind⟩
  refine c_within h3 (zRd rfl) (zRd rfl) ?_
  refine ⟨by grind [zR], fun _ => by grind, fun _ => ?_⟩
  refine c_within h4 (zRd rfl) (zRd rfl) ?_
  refine ⟨by grind [zR], fun _ => by grind, fun _ => ?_⟩
  refine c_within h5 (zRd rfl) (zRd rfl) ?_
  refine ⟨by grind [zR], fun _ => ⟨by grind, ?_⟩, fun _ => by grind⟩
  rw [if_pos (by grind)] at h
  obtain ⟨a, ha, hid⟩ : ∃ a : Nat, M 33 (M 0 11).toNat = a ∧ (a = 69 ∨ a = 79 ∨ a = 89) := by
    obtain ⟨⟨f1, f2, f3⟩, -⟩ := hf
    have h9 : (M 0 11).toNat = 0 ∨ (M 0 11).toNat = 1 ∨ (M 0 11).toNat = 2 := by omega
    rcases h9 with h9 | h9 | h9 <;> rw [h9]
    · exact ⟨_, f1, Or.inl rfl⟩
    · exact ⟨_, f2, Or.inr (Or.inl rfl)⟩
    · exact ⟨_, f3, Or.inr (Or.inr rfl)⟩
  have h := h a ha hid
  have hne : a ≠ 0 ∧ a ≠ 33 ∧ a ≠ 34 ∧ a ≠ 66 := by omega
  rw [ha]
  refine ⟨by unfold zIs_10; omega, ?_⟩
  rintro M12 rfl M13 rfl M14 rfl M15 rfl M16 rfl M17 rfl
  have hl2 : zFix (zup (zup (zup (zup (zup (zup M a 0 s) a 1 v) a 2 r) a 3 l) a 4 w) 0 11 (M 0 11 + 1)) := by
    simpa [zFix, zup_r, hne.1.symm, hne.2.1.symm, hne.2.2.1.symm, hne.2.2.2.symm] using hf
  have e0 : (zup (zup (zup (zup (zup M a 0 s) a 1 v) a 2 r) a 3 l) a 4 w) 0 11 = M 0 11 := by
    simp [zup_r, hne.1.symm]
  simp only [Int.toNat_natCast]
  rw [e0]
  refine c_lavaChanged hl2 ?_
  have e1 : cLv (zup (zup (zup (zup (zup (zup M a 0 s) a 1 v) a 2 r) a 3 l) a 4 w) 0 11 (M 0 11 + 1)) 0 11 = M 0 11 + 1 := by
    simp [cLv, cEs, cPl, zup_r]
  rw [e1]
  simpa using h
theorem c_addTown {E : zE} {M : zM} {Q : Int → zM → Prop} {c n t l : Int} (hn : 0 ≤ M 44 6 ∧ M 44 6 ≤ 8)
    (h : if M 44 6 < 8 then Q (M 44 6) (zup (zup (zup (zup (zup (zup M 45 (M 44 6).toNat c) 46 (M 44 6).toNat n) 47 (M 44 6).toNat t) 48 (M 44 6).toNat l) 49 (M 44 6).toNat 0) 44 6 (M 44 6 + 1)) else Q (-1) M) : zP E mX3_addTown [.inr (.inr 44), .inl c, .inl n, .inl t, .inl l] M Q := by
  refine vcX3_addTown _ _ _ _ ?_
  refine ⟨by grind [zR], fun hb => ?_, fun _ => by grind⟩
  rw [if_pos hb] at h
  simp [zup_r]
  simpa [hn, hb] using h
theorem c_town {E : zE} {M : zM} {Q : Int → zM → Prop} {c n t l : Int} (h1 : zR c) (h2 : zR n) (h3 : zR t) (h4 : zR l) (hf : zFix M) (hc0 : 0 ≤ M 28 1 ∧ M 28 1 ≤ 64) (hn : 0 ≤ M 44 6 ∧ M 44 6 ≤ 8)
    (h : if (0 ≤ c ∧ c < M 28 1) ∧ (1 ≤ n ∧ n ≤ 999) ∧ (1 ≤ t ∧ t ≤ 4) ∧ (0 ≤ l ∧ l ≤ 5) then
      (if M 44 6 < 8 then Q (M 44 6) (zup (zup (zup (zup (zup (zup (cEs M) 45 (M 44 6).toNat c) 46 (M 44 6).toNat n) 47 (M 44 6).toNat t) 48 (M 44 6).toNat l) 49 (M 44 6).toNat 0) 44 6 (M 44 6 + 1)) else Q (-1) (cEs M)) else Q (-1) M) : zP E mX11_town [.inr (.inr 0), .inl c, .inl n, .inl t, .inl l] M Q := by
  refine vcX11_town _ _ _ _ ?_
  refine c_lhas h1 hc0 ?_
  refine ⟨by grind [zR], fun _ => by grind, fun _ => ?_⟩
  refine c_within h2 (zRd rfl) (zRd rfl) ?_
  refine ⟨by grind [zR], fun _ => by grind, fun _ => ?_⟩
  refine c_within h3 (zRd rfl) (zRd rfl) ?_
  refine ⟨by grind [zR], fun _ => by grind, fun _ => ?_⟩
  refine c_within h4 (zRd rfl) (zRd rfl) ?_
  refine ⟨by grind [zR], fun _ => ?_, fun _ => by grind⟩
  rw [if_pos (by grind)] at h
  refine c_escapeChanged hf ?_
  have e0 : cEs M 44 6 = M 44 6 := by simp [cEs, cPl, zup_r]
  refine c_addTown (by rw [e0]; exact hn) ?_
  rw [e0]
  exact h
theorem c_shelter {E : zE} {M : zM} {Q : Int → zM → Prop} {n : Int} (h1 : zR n) (hf : zFix M) (hn : 0 ≤ M 44 6 ∧ M 44 6 ≤ 8)
    (h : if (0 ≤ n ∧ n ≤ 9999) then
      (if M 44 6 < 8 then Q (M 44 6) (zup (zup (zup (zup (zup (zup (zup (cEs M) 45 (M 44 6).toNat (-1)) 46 (M 44 6).toNat 0) 47 (M 44 6).toNat 0) 48 (M 44 6).toNat 0) 49 (M 44 6).toNat 0) 44 6 (M 44 6 + 1)) 49 (M 44 6).toNat n) else Q (-1) (cEs M)) else Q (-1) M) : zP E mX11_shelter [.inr (.inr 0), .inl n] M Q := by
  refine vcX11_shelter _ ?_
  refine c_within h1 (zRd rfl) (zRd rfl) ?_
  refine ⟨by grind [zR], fun _ => ?_, fun _ => by grind⟩
  rw [if_pos (by grind)] at h
  refine c_escapeChanged hf ?_
  have e0 : cEs M 44 6 = M 44 6 := by simp [cEs, cPl, zup_r]
  refine vcX3_addShelter _ ?_
  refine c_addTown (by rw [e0]; exact hn) ?_
  rw [e0]
  split
  · rename_i hb
    rw [if_pos hb] at h
    refine ⟨by grind [zR], fun hc => by grind, fun _ => ⟨by grind, ?_⟩⟩
    rintro M3 rfl
    exact h
  · rename_i hb
    rw [if_neg hb] at h
    exact ⟨zRd rfl, fun _ => h, fun hc => absurd rfl hc⟩
