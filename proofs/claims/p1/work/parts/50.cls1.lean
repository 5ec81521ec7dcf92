/-! the class: small helpers, and what forgets -/
theorem c_within {E : zE} {M : zM} {Q : Int → zM → Prop} {n lo hi : Int} (h1 : zR n) (h2 : zR lo) (h3 : zR hi) (h : Q (if lo ≤ n ∧ n ≤ hi then 1 else 0) M) : zP E mX11_within [.inl n, .inl lo, .inl hi] M Q := by
  refine vcX11_within _ _ _ ?_
  grind
theorem c_isHour {E : zE} {M : zM} {Q : Int → zM → Prop} {n : Int} (h1 : zR n) (h : Q (if 0 ≤ n ∧ n ≤ 99 then 1 else 0) M) : zP E mX11_isHour [.inl n] M Q := by
  refine vcX11_isHour _ ?_
  refine c_within h1 (zRd rfl) (zRd rfl) ?_
  grind
theorem c_isWorld {E : zE} {M : zM} {Q : Int → zM → Prop} {n : Int} (h1 : zR n) (h2 : 0 ≤ M 0 11 ∧ M 0 11 ≤ 3) (h : Q (if 0 ≤ n ∧ n < M 0 11 then 1 else 0) M) : zP E mX11_isWorld [.inr (.inr 0), .inl n] M Q := by
  refine vcX11_isWorld _ ?_
  refine c_within h1 (zRd rfl) (by grind [zR]) ?_
  grind
theorem c_lhas {E : zE} {M : zM} {Q : Int → zM → Prop} {n : Int} (h1 : zR n) (h2 : 0 ≤ M 28 1 ∧ M 28 1 ≤ 64) (h : Q (if 0 ≤ n ∧ n < M 28 1 then 1 else 0) M) : zP E mX1_has [.inr (.inr 28), .inl n] M Q := by
  refine vcX1_has _ ?_
  refine c_within h1 (zRd rfl) (by grind [zR]) ?_
  grind
theorem c_hasPost {E : zE} {M : zM} {Q : Int → zM → Prop} {n : Int} (h1 : zR n) (h2 : 0 ≤ M 20 1 ∧ M 20 1 ≤ 8) (h : Q (if 0 ≤ n ∧ n < M 20 1 then 1 else 0) M) : zP E mX5_hasPost [.inr (.inr 20), .inl n] M Q := by
  refine vcX5_hasPost _ ?_
  refine c_within h1 (zRd rfl) (by grind [zR]) ?_
  grind
theorem c_phas {E : zE} {M : zM} {Q : Int → zM → Prop} {n : Int} (h1 : zR n) (h2 : 0 ≤ M 44 6 ∧ M 44 6 ≤ 8) (h : Q (if 0 ≤ n ∧ n < M 44 6 then 1 else 0) M) : zP E mX3_has [.inr (.inr 44), .inl n] M Q := by
  refine vcX3_has _ ?_
  refine c_within h1 (zRd rfl) (by grind [zR]) ?_
  grind
theorem c_isTown {E : zE} {M : zM} {Q : Int → zM → Prop} {n : Int} (h1 : zR n) (h2 : 0 ≤ M 44 6 ∧ M 44 6 ≤ 8) (hc : ∀ i, zR (M 45 i)) (h : Q (if (0 ≤ n ∧ n < M 44 6) ∧ M 45 n.toNat ≠ -1 then 1 else 0) M) : zP E mX3_isTown [.inr (.inr 44), .inl n] M Q := by
  refine vcX3_isTown _ ?_
  refine c_phas h1 h2 ?_
  have := hc n.toNat
  grind [zR]
/-- the rows of objects that are made once -/
def zFix (M : zM) : Prop := (M 33 0 = 69 ∧ M 33 1 = 79 ∧ M 33 2 = 89) ∧ (M 34 0 = 70 ∧ M 34 1 = 80 ∧ M 34 2 = 90) ∧ (M 66 0 = 99 ∧ M 66 1 = 100 ∧ M 66 2 = 101)
def cPl (M : zM) : zM := zup (zup (zup M 99 0 0) 100 0 0) 101 0 0
def cEs (M : zM) : zM := cPl (zup (zup (zup (zup M 0 7 0) 70 10 0) 80 10 0) 90 10 0)
def cLv (M : zM) : zM := cEs (zup (zup (zup M 70 4 0) 80 4 0) 90 4 0)
def cAl (M : zM) (k : Int) : zM := cEs (zup M 0 6 (if k < M 0 6 then k else M 0 6))
theorem c_forgetPlans {E : zE} {M : zM} {Q : Int → zM → Prop} (hf : zFix M) (h : Q 0 (cPl M)) : zP E mX11_forgetPlans [.inr (.inr 0)] M Q := by
  obtain ⟨-, -, f1, f2, f3⟩ := hf
  refine vcX11_forgetPlans (fun n l M' => (l = 0 ∧ n = 3 ∧ M' = M) ∨ (l = 1 ∧ n = 2 ∧ M' = zup M 99 0 0) ∨ (l = 2 ∧ n = 1 ∧ M' = zup (zup M 99 0 0) 100 0 0) ∨ (l = 3 ∧ n = 0 ∧ M' = cPl M)) ⟨3, Or.inl ⟨rfl, rfl, rfl⟩⟩ ?_
  rintro n l M' (⟨rfl, rfl, rfl⟩ | ⟨rfl, rfl, rfl⟩ | ⟨rfl, rfl, rfl⟩ | ⟨rfl, rfl, rfl⟩)
  · simp [zRd, zIs_4, f1]
  · simp [zRd, zIs_4, f2, zup_r]
  · simp [zRd, zIs_4, f3, zup_r]
    rfl
  · simp [zRd]
    exact h
theorem c_escapeChanged {E : zE} {M : zM} {Q : Int → zM → Prop} (hf : zFix M) (h : Q 0 (cEs M)) : zP E mX11_escapeChanged [.inr (.inr 0)] M Q := by
  have hf0 := hf
  obtain ⟨-, ⟨f1, f2, f3⟩, -⟩ := hf
  refine vcX11_escapeChanged (fun n l M' => (l = 0 ∧ n = 3 ∧ M' = zup M 0 7 0) ∨ (l = 1 ∧ n = 2 ∧ M' = zup (zup M 0 7 0) 70 10 0) ∨ (l = 2 ∧ n = 1 ∧ M' = zup (zup (zup M 0 7 0) 70 10 0) 80 10 0) ∨ (l = 3 ∧ n = 0 ∧ M' = zup (zup (zup (zup M 0 7 0) 70 10 0) 80 10 0) 90 10 0)) ?_ ?_
  · rintro M1 rfl
    exact ⟨3, Or.inl ⟨rfl, rfl, rfl⟩⟩
  · rintro n l M' (⟨rfl, rfl, rfl⟩ | ⟨rfl, rfl, rfl⟩ | ⟨rfl, rfl, rfl⟩ | ⟨rfl, rfl, rfl⟩)
    · simp [zRd, zIs_0, f1, zup_r]
    · simp [zRd, zIs_0, f2, zup_r]
    · simp [zRd, zIs_0, f3, zup_r]
    · simp [zRd]
      refine c_forgetPlans ?_ h
      simpa [zFix, zup_r] using hf0
theorem c_lavaChanged {E : zE} {M : zM} {Q : Int → zM → Prop} (hf : zFix M) (h : Q 0 (cLv M)) : zP E mX11_lavaChanged [.inr (.inr 0)] M Q := by
  have hf0 := hf
  obtain ⟨-, ⟨f1, f2, f3⟩, -⟩ := hf
  refine vcX11_lavaChanged (fun n l M' => (l = 0 ∧ n = 3 ∧ M' = M) ∨ (l = 1 ∧ n = 2 ∧ M' = zup M 70 4 0) ∨ (l = 2 ∧ n = 1 ∧ M' = zup (zup M 70 4 0) 80 4 0) ∨ (l = 3 ∧ n = 0 ∧ M' = zup (zup (zup M 70 4 0) 80 4 0) 90 4 0)) ⟨3, Or.inl ⟨rfl, rfl, rfl⟩⟩ ?_
  rintro n l M' (⟨rfl, rfl, rfl⟩ | ⟨rfl, rfl, rfl⟩ | ⟨rfl, rfl, rfl⟩ | ⟨rfl, rfl, rfl⟩)
  · simp [zRd, zIs_0, f1, zup_r]
  · simp [zRd, zIs_0, f2, zup_r]
  · simp [zRd, zIs_0, f3, zup_r]
  · simp [zRd]
    refine c_escapeChanged ?_ h
    simpa [zFix, zup_r] using hf0
theorem c_alertsChanged {E : zE} {M : zM} {Q : Int → zM → Prop} {k : Int} (hf : zFix M) (hr : zR (M 0 6)) (hk : zR k) (h : Q 0 (cAl M k)) : zP E mX11_alertsChanged [.inr (.inr 0), .inl k] M Q := by
  refine vcX11_alertsChanged _ ⟨⟨hr, hk⟩, ?_⟩
  rintro M1 rfl
  refine c_escapeChanged ?_ h
  simpa [zFix, zup_r] using hf
theorem c_hours {E : zE} {M : zM} {Q : Int → zM → Prop} {n : Int} (h1 : zR n) (h2 : 0 ≤ M 0 0 ∧ M 0 0 ≤ 99)
    (h : if 0 ≤ n ∧ M 0 0 + n ≤ 99 then Q (M 0 0 + n) (zup M 0 0 (M 0 0 + n)) else Q (-1) M) : zP E mX11_hours [.inr (.inr 0), .inl n] M Q := by
  refine vcX11_hours _ ?_
  refine c_within h1 (zRd rfl) (zRd rfl) ?_
  simp [zup_r]
  grind [zR]
theorem c_post {E : zE} {M : zM} {Q : Int → zM → Prop} {k : Int} (h1 : zR k) (hf : zFix M) (hr : zR (M 0 6)) (h2 : 0 ≤ M 20 1 ∧ M 20 1 ≤ 8)
    (h : if M 20 1 < 8 ∧ 0 ≤ k ∧ k ≤ 3 then Q (M 20 1) (cAl (zup (zup M 21 (M 20 1).toNat k) 20 1 (M 20 1 + 1)) 0) else Q (-1) M) : zP E mX11_post [.inr (.inr 0), .inl k] M Q := by
  refine vcX11_post _ ?_
  refine vcX5_addPost _ ?_
  refine c_within h1 (zRd rfl) (zRd rfl) ?_
  refine ⟨by grind [zR], fun _ => ?_, fun _ => ⟨by grind [zR], fun _ => ⟨by grind, ?_⟩, fun _ => ?_⟩⟩
  · exact ⟨zRd rfl, fun _ => by grind, fun hc => absurd rfl hc⟩
  · rw [if_pos (by grind)] at h
    rintro M3 rfl M4 rfl
    simp only [zup_r]
    simp
    refine ⟨by grind [zR], fun hc => by grind, fun _ => ?_⟩
    refine c_alertsChanged ?_ ?_ (zRd rfl) ?_
    · simpa [zFix, zup_r] using hf
    · simpa [zup_r] using hr
    · exact h
  · exact ⟨zRd rfl, fun _ => by grind, fun hc => absurd rfl hc⟩
theorem c_wind {E : zE} {M : zM} {Q : Int → zM → Prop} {a b c : Int} (h1 : zR a) (h2 : zR b) (h3 : zR c)
    (h : if (0 ≤ a ∧ a ≤ 123) ∧ (0 ≤ b ∧ b ≤ 7) ∧ (0 ≤ c ∧ c ≤ 7) then Q 1 (zup (zup M 67 a.toNat b) 68 a.toNat c) else Q 0 M) : zP E mX11_wind [.inr (.inr 0), .inl a, .inl b, .inl c] M Q := by
  refine vcX11_wind _ _ _ ?_
  refine c_within h1 (zRd rfl) (zRd rfl) ?_
  refine ⟨by grind [zR], fun _ => by grind, fun _ => ?_⟩
  refine c_within h2 (zRd rfl) (zRd rfl) ?_
  refine ⟨by grind [zR], fun _ => by grind, fun _ => ?_⟩
  refine c_within h3 (zRd rfl) (zRd rfl) ?_
  grind [zR]
theorem c_count {E : zE} {M : zM} {Q : Int → zM → Prop} {w : Int} (h1 : zR w) (hb : zIs_6 (M 0 2))
    (h : Q (if w = 0 then M 0 0 else if w = 1 then M 20 1 else if w = 2 then M 20 6 else if w = 3 then M (M 0 2).toNat 8 else if w = 4 then M (M 0 2).toNat 10 else if w = 5 then M (M 0 2).toNat 9 else if w = 6 then M 0 11 else if w = 7 then M 44 6 else if w = 8 then M 44 13 else if w = 9 then M 28 7 else if w = 10 then M 28 5 else -1) M) : zP E mX11_count [.inr (.inr 0), .inl w] M Q := by
  refine vcX11_count _ ?_
  refine ⟨h1, ?_, ?_, ?_, ?_, ?_, ?_, ?_, ?_, ?_, ?_, ?_, ?_⟩ <;> intro hw <;> first | (subst hw; simpa using h) | (subst hw; exact ⟨hb, by simpa using h⟩) | grind (splits := 20)
theorem c_fault {E : zE} {M : zM} {Q : Int → zM → Prop} {w : Int} (h1 : zR w) (h : Q (if w = 0 then M 1 1 else if w = 1 then M 1 2 else -1) M) : zP E mX11_fault [.inr (.inr 0), .inl w] M Q := by
  refine vcX11_fault _ ?_
  grind [zR]
theorem c_tell {E : zE} {M : zM} {Q : Int → zM → Prop} {p hr nw v g : Int} (h1 : zR p) (h2 : zR hr) (h4 : zR v) (hg : g = 0 ∨ g = 1) (hp : 0 ≤ M 20 1 ∧ M 20 1 ≤ 8) (ht : 0 ≤ M 20 6 ∧ M 20 6 ≤ 400)
    (h : if (0 ≤ p ∧ p < M 20 1) ∧ (0 ≤ hr ∧ hr ≤ 99) ∧ (g = 1 ∨ (-9999 ≤ v ∧ v ≤ 9999)) ∧ M 20 6 < 400 then
      Q (M 20 6 + 1) (zup (zup (zup (zup (zup M 24 (M 20 6).toNat nw) 25 (M 20 6).toNat (if g = 1 then -10000 else v)) 23 (M 20 6).toNat (M 22 (p * 100 + hr).toNat)) 22 (p * 100 + hr).toNat (M 20 6)) 20 6 (M 20 6 + 1)) else Q (-1) M) : zP E mX5_tell [.inr (.inr 20), .inl p, .inl hr, .inl nw, .inl v, .inl g] M Q := by
  refine vcX5_tell _ _ _ _ _ ?_
  rcases hg with rfl | rfl
  · refine ⟨zRd rfl, fun hc => absurd rfl hc, fun _ => ?_⟩
    refine c_within h4 (zRd rfl) (zRd rfl) ?_
    refine ⟨by grind [zR], fun _ => ?_, fun _ => ?_⟩
    · refine c_hasPost h1 hp ?_
      refine ⟨by grind [zR], fun _ => by grind, fun _ => ?_⟩
      refine c_isHour h2 ?_
      grind [zR]
    · refine c_hasPost h1 hp ?_
      refine ⟨by grind [zR], fun _ => by grind, fun _ => ?_⟩
      refine c_isHour h2 ?_
      refine ⟨by grind [zR], fun _ => by grind, fun _ => ⟨by grind [zR], fun _ => ⟨by grind, ?_⟩, fun _ => by grind⟩⟩
      rw [if_pos (by grind)] at h
      have b1 : 0 ≤ p * 100 + hr ∧ p * 100 + hr < 800 := by grind
      have b2 : 0 ≤ M 20 6 ∧ M 20 6 < 400 := by grind
      rintro M5 rfl
      simp [zup_r, b1, b2]
      simpa using ⟨zRd rfl, h⟩
  · refine ⟨zRd rfl, fun _ => ?_, fun hc => absurd hc (by decide)⟩
    refine c_hasPost h1 hp ?_
    refine ⟨by grind [zR], fun _ => by grind, fun _ => ?_⟩
    refine c_isHour h2 ?_
    refine ⟨by grind [zR], fun _ => by grind, fun _ => ⟨by grind [zR], fun _ => ⟨by grind, ?_⟩, fun _ => by grind⟩⟩
    rw [if_pos (by grind)] at h
    have b1 : 0 ≤ p * 100 + hr ∧ p * 100 + hr < 800 := by grind
    have b2 : 0 ≤ M 20 6 ∧ M 20 6 < 400 := by grind
    rintro M5 rfl
    simp [zup_r, b1, b2]
    simpa using ⟨zRd rfl, h⟩
theorem c_read {E : zE} {M : zM} {Q : Int → zM → Prop} {p hr v g : Int} (h1 : zR p) (h2 : zR hr) (h4 : zR v) (hg : g = 0 ∨ g = 1) (hf : zFix M) (hk : zR (M 0 6)) (hn : 0 ≤ M 0 0 ∧ M 0 0 ≤ 99) (hp : 0 ≤ M 20 1 ∧ M 20 1 ≤ 8) (ht : 0 ≤ M 20 6 ∧ M 20 6 ≤ 400)
    (h : if (0 ≤ p ∧ p < M 20 1) ∧ (0 ≤ hr ∧ hr ≤ M 0 0) ∧ (g = 1 ∨ (-9999 ≤ v ∧ v ≤ 9999)) ∧ M 20 6 < 400 then
      Q (M 20 6 + 1) (cAl (zup (zup (zup (zup (zup M 24 (M 20 6).toNat (M 0 0)) 25 (M 20 6).toNat (if g = 1 then -10000 else v)) 23 (M 20 6).toNat (M 22 (p * 100 + hr).toNat)) 22 (p * 100 + hr).toNat (M 20 6)) 20 6 (M 20 6 + 1)) (M 0 0)) else Q (-1) M) : zP E mX11_read [.inr (.inr 0), .inl p, .inl hr, .inl v, .inl g] M Q := by
  refine vcX11_read _ _ _ _ ?_
  refine c_within h2 (zRd rfl) (by grind [zR]) ?_
  refine ⟨by grind [zR], fun _ => ?_, fun _ => by grind⟩
  refine c_tell h1 h2 h4 hg hp ht ?_
  split
  · rw [if_pos (by grind)] at h
    refine ⟨by grind [zR], fun hc => by grind, fun _ => ?_⟩
    refine c_alertsChanged ?_ ?_ ?_ ?_
    · simpa [zFix, zup_r] using hf
    · simpa [zup_r] using hk
    · simp [zup_r]
      grind [zR]
    · simpa [zup_r] using h
  · rw [if_neg (by grind)] at h
    exact ⟨zRd rfl, fun _ => h, fun hc => absurd rfl hc⟩
