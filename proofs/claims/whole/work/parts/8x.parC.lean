/-! the class's reader of rules: one token a step, as it is in its own cells -/
def awM (M : zM) (t : Int) : zM := if M 1 7 < 72 then zup (zup M 4 (M 1 7).toNat t) 1 7 (M 1 7 + 1) else M
def wrM (M : zM) (b : Nat) (op kd nm : Int) : zM := if M b 7 < 64 then zup (zup (zup (zup M (b + 1) (M b 7).toNat op) (b + 2) (M b 7).toNat kd) (b + 3) (M b 7).toNat nm) b 7 (M b 7 + 1) else M
def enM (M : zM) (b : Nat) (lv : Int) : zM := if M b 8 < 12 then zup (zup (zup M (b + 4) (M b 8).toNat lv) (b + 5) (M b 8).toNat (M b 7)) b 8 (M b 8 + 1) else M
def ckM (M : zM) (b : Nat) : zM := zup M b 9 (M b 9 + 1)
def ckF (M : zM) (b : Nat) : Int := if 64 < M b 9 + 1 then 2 else 0
def stre (t : Int) : Int := if t = 18 then 0 else if t = 2 then 1 else if t = 3 then 2 else if t = 4 then 3 else if t = 21 ∨ t = 22 then 5 else if t = 23 ∨ t = 24 then 6 else if t = 31 then 7 else 4
def stlM (b : Nat) (least : Int) : Nat → zM → zM
  | 0, M => M
  | k + 1, M => if 0 < M 1 7 ∧ least ≤ stre (M 4 (M 1 7 - 1).toNat) then stlM b least k (wrM (zup M 1 7 (M 1 7 - 1)) b (M 4 (M 1 7 - 1).toNat) 0 0) else M
def jdg (M : zM) (lo hi : Int) : Int := if M 2 4 = 16 then (if lo ≤ M 2 6 ∧ M 2 6 ≤ hi then 0 else 2) else 1
def stpA (b : Nat) (M : zM) : Int × zM :=
  if M 2 4 = 18 then (if M 1 8 < 8 then (0, awM (zup (zup (zup M 1 8 (M 1 8 + 1)) 5 (M 1 8 + 1).toNat 0) 1 10 1) 18) else (2, M))
  else if M 2 4 = 16 then (if 99999 < M 2 6 then (2, zup (wrM M b 16 0 (M 2 6)) 1 3 5) else (ckF (zup (wrM M b 16 0 (M 2 6)) 1 3 5) b, ckM (zup (wrM M b 16 0 (M 2 6)) 1 3 5) b))
  else if 5 ≤ M 2 4 ∧ M 2 4 ≤ 11 then (ckF (zup (zup M 1 11 (M 2 4)) 1 3 6) b, ckM (zup (zup M 1 11 (M 2 4)) 1 3 6) b)
  else if M 2 4 = 22 then (ckF (awM (zup M 1 10 0) 31) b, ckM (awM (zup M 1 10 0) 31) b)
  else if M 2 4 = 4 ∧ M 1 10 ≠ 0 then (ckF (awM M 4) b, ckM (awM M 4) b) else (1, M)
def sgM (b : Nat) (M : zM) : zM := zup (zup (awM (stlM b (stre (M 2 4)) (M 1 7).toNat (if 21 ≤ M 2 4 ∧ M 2 4 ≤ 24 then M else zup M 5 (M 1 8).toNat (if 25 ≤ M 2 4 ∧ M 2 4 ≤ 30 then 1 else 0))) (M 2 4)) 1 10 (if M 2 4 = 2 ∨ M 2 4 = 3 then 1 else 0)) 1 3 4
abbrev sgBad (M : zM) : Prop := ¬ (M 2 4 = 2 ∨ M 2 4 = 3) ∧ ¬ (21 ≤ M 2 4 ∧ M 2 4 ≤ 24) ∧ (¬ (25 ≤ M 2 4 ∧ M 2 4 ≤ 30) ∨ M 5 (M 1 8).toNat ≠ 0)
def stpB (b : Nat) (M : zM) : Int × zM :=
  if M 2 4 = 17 ∧ M 1 8 = 0 then (0, zup (zup (enM (stlM b 1 (M 1 7).toNat M) b (stlM b 1 (M 1 7).toNat M 1 5)) 1 4 (enM (stlM b 1 (M 1 7).toNat M) b (stlM b 1 (M 1 7).toNat M 1 5) 1 4 + 1)) 1 3 0)
  else if M 2 4 = 19 ∧ 0 < M 1 8 then (0, zup (zup (stlM b 1 (M 1 7).toNat M) 1 7 (stlM b 1 (M 1 7).toNat M 1 7 - 1)) 1 8 (stlM b 1 (M 1 7).toNat M 1 8 - 1))
  else if sgBad M then (1, M) else (ckF (sgM b M) b, ckM (sgM b M) b)
def stpW (b : Nat) (M : zM) : Int × zM :=
  if M 1 3 = 6 then ((if M 2 4 = 18 then (if M 1 8 < 8 then 0 else 2) else 1), zup M 1 3 7)
  else if M 1 3 = 7 then ((if 12 ≤ M 2 4 ∧ M 2 4 ≤ 15 then 0 else 1), zup (zup M 1 3 8) 1 12 (M 2 4 - 12))
  else if M 1 3 = 8 then ((if M 2 4 = 20 then 0 else 1), zup M 1 3 9)
  else if M 1 3 = 9 then (jdg M 1 48, wrM (zup M 1 3 10) b (M 1 11) (M 1 12) (M 2 6))
  else ((if M 2 4 = 19 then 0 else 1), zup M 1 3 5)
def stpM (b : Nat) (M : zM) : Int × zM :=
  if M 1 3 = 0 then (if M 2 4 = 0 then ((if M b 11 = 0 then 0 else 3), zup M 1 3 1) else if M 2 4 = 1 then ((if 12 ≤ M b 8 then 2 else 0), zup M 1 3 3) else (1, M))
  else if M 1 3 = 1 then (jdg M 0 24, zup (zup (zup M b 11 1) b 10 (M 2 6)) 1 3 2)
  else if M 1 3 = 2 then ((if M 2 4 = 17 then 0 else 1), zup (zup M 1 4 (M 1 4 + 1)) 1 3 0)
  else if M 1 3 = 3 then (jdg M 1 4, zup (zup (zup (zup (zup (zup M 1 5 (M 2 6)) 1 7 0) 1 8 0) 5 0 0) 1 10 1) 1 3 4)
  else if M 1 3 = 4 then stpA b M
  else if M 1 3 = 5 then stpB b M
  else stpW b M
/-- how many parentheses wait -/
def pcn (W : Nat → Int) : Nat → Int
  | 0 => 0
  | n + 1 => pcn W n + (if W n = 18 then 1 else 0)
/-- what keeps the reader within its cells -/
def pIn5 (b : Nat) (M : zM) : Prop := 0 ≤ M 1 7 ∧ (0 ≤ M 1 8 ∧ M 1 8 ≤ 8) ∧ (M 1 10 = 0 ∨ M 1 10 = 1) ∧ (∀ i : Nat, (i : Int) ≤ M 1 8 → M 5 i = 0 ∨ M 5 i = 1) ∧ (∀ i : Nat, (i : Int) < M 1 7 → 0 ≤ M 4 i ∧ M 4 i ≤ 33) ∧ pcn (M 4) (M 1 7).toNat = M 1 8 ∧ M 1 7 - M 1 8 + M b 7 + (if 6 ≤ M 1 3 ∧ M 1 3 ≤ 9 then 1 else 0) ≤ M b 9
def pInv (b : Nat) (M : zM) : Prop := (0 ≤ M b 7 ∧ M b 7 ≤ 64) ∧ (0 ≤ M b 8 ∧ M b 8 ≤ 12) ∧ (0 ≤ M b 9 ∧ M b 9 ≤ 64) ∧ (0 ≤ M 1 3 ∧ M 1 3 ≤ 10) ∧ (M b 11 = 0 ∨ M b 11 = 1) ∧ (M 1 3 < 4 → M b 7 ≤ M b 9) ∧ (4 ≤ M 1 3 → pIn5 b M)
theorem pIn5_w {b : Nat} {M : zM} (h : pInv b M) (hd : 4 ≤ M 1 3) : (0 ≤ M 1 7 ∧ M 1 7 ≤ 72) ∧ M 1 7 - M 1 8 + M b 7 ≤ M b 9 := by
  obtain ⟨p3, p4, p5, p6, p7, -, hq⟩ := h
  obtain ⟨q1, p2, p8, p9, p10, q6, q7⟩ := hq hd
  have : M 1 7 - M 1 8 + M b 7 ≤ M b 9 := by
    split at q7 <;> omega
  omega
def tkR (M : zM) : Prop := (0 ≤ M 2 4 ∧ M 2 4 ≤ 33) ∧ (M 2 4 = 16 → 0 ≤ M 2 6 ∧ M 2 6 ≤ 1000000)
theorem bk_c {b : Nat} (hb : zIs_6 (b : Int)) : (b = 6 ∨ b = 13) ∧ (b : Int).toNat = b ∧ ((b : Int) + 1).toNat = b + 1 ∧ ((b : Int) + 2).toNat = b + 2 ∧ ((b : Int) + 3).toNat = b + 3 ∧ ((b : Int) + 4).toNat = b + 4 ∧ ((b : Int) + 5).toNat = b + 5 := by
  unfold zIs_6 at hb
  omega
theorem c_await {E : zE} {M : zM} {Q : Int → zM → Prop} {t : Int} (h1 : 0 ≤ M 1 7 ∧ M 1 7 ≤ 72) (h : Q 0 (awM M t)) : zP E mX7_await [.inr (.inr 1), .inl t] M Q := by
  refine vcX7_await _ ?_
  unfold awM at h
  refine ⟨by unfold zR; omega, fun q => ?_, fun q => ⟨by omega, fun M1 hM1 M2 hM2 => ?_⟩⟩
  · rw [if_neg (by omega)] at h; exact h
  · rw [if_pos (by omega)] at h
    rw [hM2, hM1, zup_ne _ _ _ (show 1 ≠ 4 by decide)]
    exact h
theorem c_write {E : zE} {M : zM} {Q : Int → zM → Prop} {b : Nat} {op kd nm : Int} (hb : zIs_6 (b : Int)) (h1 : 0 ≤ M b 7 ∧ M b 7 ≤ 64) (h : Q 0 (wrM M b op kd nm)) : zP E mX6_write [.inr (.inr (b : Int)), .inl op, .inl kd, .inl nm] M Q := by
  obtain ⟨bc, e0, e1, e2, e3, e4, e5⟩ := bk_c hb
  refine vcX6_write _ _ _ _ hb ?_
  rw [e0, e1, e2, e3]
  unfold wrM at h
  refine ⟨by unfold zR; omega, fun q => ?_, fun q => ⟨by omega, fun M1 hM1 => ?_⟩⟩
  · rw [if_neg (by omega)] at h; exact h
  · rw [if_pos (by omega)] at h
    have s1 : M1 b = M b := by rw [hM1, zup_ne _ _ _ (by omega)]
    rw [s1]
    refine ⟨by omega, fun M2 hM2 => ?_⟩
    have s2 : M2 b = M b := by rw [hM2, zup_ne _ _ _ (by omega), s1]
    rw [s2]
    refine ⟨by omega, fun M3 hM3 M4 hM4 => ?_⟩
    have s3 : M3 b = M b := by rw [hM3, zup_ne _ _ _ (by omega), s2]
    rw [hM4, s3, hM3, hM2, hM1]
    exact h
theorem c_endLine {E : zE} {M : zM} {Q : Int → zM → Prop} {b : Nat} {lv : Int} (hb : zIs_6 (b : Int)) (h1 : 0 ≤ M b 8 ∧ M b 8 ≤ 12) (h : Q 0 (enM M b lv)) : zP E mX6_endLine [.inr (.inr (b : Int)), .inl lv] M Q := by
  obtain ⟨bc, e0, e1, e2, e3, e4, e5⟩ := bk_c hb
  refine vcX6_endLine _ _ hb ?_
  rw [e0, e4, e5]
  unfold enM at h
  refine ⟨by unfold zR; omega, fun q => ?_, fun q => ⟨by omega, fun M1 hM1 => ?_⟩⟩
  · rw [if_neg (by omega)] at h; exact h
  · rw [if_pos (by omega)] at h
    have s1 : M1 b = M b := by rw [hM1, zup_ne _ _ _ (by omega)]
    rw [s1]
    refine ⟨by omega, fun M2 hM2 M3 hM3 => ?_⟩
    have s2 : M2 b = M b := by rw [hM2, zup_ne _ _ _ (by omega), s1]
    rw [hM3, s2, hM2, hM1]
    exact h
theorem c_countKnot {E : zE} {M : zM} {Q : Int → zM → Prop} {b : Nat} (hb : zIs_6 (b : Int)) (h1 : 0 ≤ M b 9 ∧ M b 9 ≤ 64) (h : Q (ckF M b) (ckM M b)) : zP E mX7_countKnot [.inr (.inr 1), .inr (.inr (b : Int))] M Q := by
  obtain ⟨bc, e0, -⟩ := bk_c hb
  refine vcX7_countKnot _ hb ?_
  rw [e0]
  unfold ckF ckM at h
  intro M1 hM1
  have s1 : M1 b 9 = M b 9 + 1 := by rw [hM1, zup_q, if_pos ⟨rfl, rfl⟩]
  rw [s1]
  refine ⟨by unfold zR; omega, fun q => ?_, fun q => ?_⟩
  · rw [if_neg (by omega)] at h; rw [hM1]; exact h
  · rw [if_pos (by omega)] at h; rw [hM1]; exact h
theorem c_strength {E : zE} {M : zM} {Q : Int → zM → Prop} {t : Int} (ht : zR t) (h : Q (stre t) M) : zP E mX7_strength [.inl t] M Q := by
  refine vcX7_strength _ ?_
  unfold stre at h
  refine ⟨ht, fun q => ?_, fun q => ?_, fun q => ?_, fun q => ?_, fun q => ?_, fun q => ?_, fun q => ?_, fun q => ?_, fun q => ?_, fun q => ?_, fun q => ?_, fun q => ?_, fun q => ?_, fun q => ?_, fun q => ?_, fun q => ?_, fun q => ?_, fun q => ?_, fun q => ?_, fun q => ?_, fun q => ?_, fun q => ?_, fun q => ?_, fun q => ?_, fun q => ?_, fun q => ?_, fun q => ?_, fun q => ?_, fun q => ?_, fun q => ?_, fun q => ?_⟩
  · rw [if_neg (by omega), if_neg (by omega), if_neg (by omega), if_neg (by omega), if_neg (by omega), if_neg (by omega), if_neg (by omega)] at h
    exact h
  all_goals (subst q; simpa using h)
theorem c_settle {E : zE} {M : zM} {Q : Int → zM → Prop} {b : Nat} {least : Int} (hb : zIs_6 (b : Int)) (hl : zR least) (h1 : 0 ≤ M 1 7 ∧ M 1 7 ≤ 72) (h2 : 0 ≤ M b 7 ∧ M b 7 ≤ 64) (hw : ∀ i : Nat, (i : Int) < M 1 7 → 0 ≤ M 4 i ∧ M 4 i ≤ 33) (h : Q 0 (stlM b least (M 1 7).toNat M)) : zP E mX7_settle [.inr (.inr 1), .inr (.inr (b : Int)), .inl least] M Q := by
  obtain ⟨bc, e0, -⟩ := bk_c hb
  have sr : ∀ t, 0 ≤ stre t ∧ stre t ≤ 7 := fun t => by
    unfold stre
    repeat' split
    all_goals omega
  have nowr : ∀ (M2 : zM) (op : Int), (0 ≤ M2 b 7 ∧ M2 b 7 ≤ 64) → wrM M2 b op 0 0 1 = M2 1 ∧ wrM M2 b op 0 0 4 = M2 4 ∧ (0 ≤ wrM M2 b op 0 0 b 7 ∧ wrM M2 b op 0 0 b 7 ≤ 64) := fun M2 op hs => by
    unfold wrM
    by_cases q : M2 b 7 < 64
    · rw [if_pos q]
      refine ⟨?_, ?_, ?_⟩
      · rw [zup_ne _ _ _ (by omega), zup_ne _ _ _ (by omega), zup_ne _ _ _ (by omega), zup_ne _ _ _ (by omega)]
      · rw [zup_ne _ _ _ (by omega), zup_ne _ _ _ (by omega), zup_ne _ _ _ (by omega), zup_ne _ _ _ (by omega)]
      · rw [zup_q, if_pos ⟨rfl, rfl⟩]
        omega
    · rw [if_neg q]
      exact ⟨rfl, rfl, hs⟩
  have core : ∀ (Y : zM → Prop) (k : Nat) (M' : zM), M' 1 7 = (k : Int) → k ≤ 72 → (0 ≤ M' b 7 ∧ M' b 7 ≤ 64) → (∀ i, i < k → 0 ≤ M' 4 i ∧ M' 4 i ≤ 33) → Q 0 (stlM b least k M') → (∀ M2 k', k = k' + 1 → M2 1 7 = (k' : Int) → (0 ≤ M2 b 7 ∧ M2 b 7 ≤ 64) → (∀ i, i < k' → 0 ≤ M2 4 i ∧ M2 4 i ≤ 33) → Q 0 (stlM b least k' M2) → Y M2) →
      ((zR (M' 1 7)) ∧ (((M' 1 7) ≤ 0 → Q 0 M') ∧ (0 < (M' 1 7) → (0 ≤ (M' 1 7) - 1 ∧ (M' 1 7) - 1 < 72) ∧ (zP E mX7_strength [.inl (M' 4 (((M' 1 7) - 1).toNat))] M' (fun r1 M2 => ((zR r1 ∧ zR least) ∧ ((r1 < least → Q 0 M2) ∧ (least ≤ r1 → (∀ M3, M3 = zup M2 1 7 ((M2 1 7) - 1) → (0 ≤ M3 1 7 ∧ M3 1 7 < 72) ∧ (zP E mX6_write [.inr (.inr (b : Int)), .inl (M3 4 ((M3 1 7).toNat)), .inl 0, .inl 0] M3 (fun _ M5 => Y M5))))))))))) := by
    intro Y k M' hk k72 hs hw' hq hY
    rw [hk]
    refine ⟨by unfold zR; omega, fun q => ?_, fun q => ⟨by omega, ?_⟩⟩
    · have : k = 0 := by omega
      subst this
      exact hq
    · obtain ⟨k', rfl⟩ : ∃ k', k = k' + 1 := ⟨k - 1, by omega⟩
      have s := sr (M' 4 ((((k' + 1 : Nat) : Int) - 1).toNat))
      have wv := hw' ((((k' + 1 : Nat) : Int) - 1).toNat) (by omega)
      refine c_strength (by unfold zR; omega) ⟨⟨by unfold zR; omega, hl⟩, fun q2 => ?_, fun q2 M3 h3 => ?_⟩
      · unfold stlM at hq
        rw [hk, if_neg (fun q3 => by omega)] at hq
        exact hq
      · unfold stlM at hq
        rw [hk, if_pos ⟨q, q2⟩] at hq
        rw [hk] at h3
        have c3 : M3 1 7 = (k' : Int) := by rw [h3, zup_q, if_pos ⟨rfl, rfl⟩]; omega
        have w3 : M3 4 = M' 4 := by rw [h3, zup_ne _ _ _ (by decide)]
        have b3 : M3 b = M' b := by rw [h3, zup_ne _ _ _ (by omega)]
        rw [c3, w3, Int.toNat_natCast]
        refine ⟨by omega, c_write hb (by rw [b3]; exact hs) ?_⟩
        obtain ⟨n1, n2, n3⟩ := nowr M3 (M' 4 k') (by rw [b3]; exact hs)
        have ek : (((k' + 1 : Nat) : Int) - 1).toNat = k' := by omega
        rw [ek] at hq
        have eM : zup M' 1 7 (((k' + 1 : Nat) : Int) - 1) = M3 := h3.symm
        rw [eM] at hq
        exact hY _ k' rfl (by rw [n1]; exact c3) n3 (fun i hi => by rw [n2, w3]; exact hw' i (by omega)) hq
  obtain ⟨K, hK⟩ : ∃ K : Nat, M 1 7 = (K : Int) := ⟨(M 1 7).toNat, by omega⟩
  rw [hK, Int.toNat_natCast] at h
  refine vcX7_settle _ _ hb (fun m l2 M' => least = l2 ∧ ∃ k : Nat, m = k ∧ k ≤ 72 ∧ M' 1 7 = (k : Int) ∧ (0 ≤ M' b 7 ∧ M' b 7 ≤ 64) ∧ (∀ i, i < k → 0 ≤ M' 4 i ∧ M' 4 i ≤ 33) ∧ Q 0 (stlM b least k M')) ?_ ?_
  · exact core (fun M' => ∃ n', least = least ∧ ∃ k : Nat, n' = k ∧ k ≤ 72 ∧ M' 1 7 = (k : Int) ∧ (0 ≤ M' b 7 ∧ M' b 7 ≤ 64) ∧ (∀ i, i < k → 0 ≤ M' 4 i ∧ M' 4 i ≤ 33) ∧ Q 0 (stlM b least k M')) K M hK (by omega) h2 (fun i hi => hw i (by omega)) h (fun M2 k' ek a1 a2 a3 a4 => ⟨k', rfl, k', rfl, by omega, a1, a2, a3, a4⟩)
  · rintro m l2 M' ⟨rfl, k, rfl, k72, a1, a2, a3, a4⟩
    exact core (fun M' => ∃ n', n' < m ∧ (least = least ∧ ∃ k : Nat, n' = k ∧ k ≤ 72 ∧ M' 1 7 = (k : Int) ∧ (0 ≤ M' b 7 ∧ M' b 7 ≤ 64) ∧ (∀ i, i < k → 0 ≤ M' 4 i ∧ M' 4 i ≤ 33) ∧ Q 0 (stlM b least k M'))) m M' a1 k72 a2 a3 a4 (fun M2 k' ek a1 a2 a3 a4 => ⟨k', by omega, rfl, k', rfl, by omega, a1, a2, a3, a4⟩)
