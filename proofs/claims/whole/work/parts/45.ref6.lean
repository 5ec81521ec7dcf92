/-! the reference: reading, land, candidate, feed, sums -/
theorem kn_congr {M M' : zM} (h1 : M' 108 = M 108) (h2 : M' 105 = M 105) (h3 : M' 106 = M 106) (h4 : M' 109 = M 109) (h5 : M' 107 = M 107) (k : Int) : ∀ (n i : Nat), kn M' k n i = kn M k n i
  | 0, _ => rfl
  | n + 1, i => by rw [kn, kn, h1, h2, h3, h4, h5, kn_congr h1 h2 h3 h4 h5 k n i]
theorem kn_01 {M : zM} (h : ∀ i, M 109 i = 0 ∨ M 109 i = 1) (k : Int) : ∀ (n i : Nat), (kn M k n i).1 = 0 ∨ (kn M k n i).1 = 1
  | 0, _ => Or.inl rfl
  | n + 1, i => by
    rw [kn]
    split
    · have := h n
      grind
    · exact kn_01 h k n i
theorem r_reading {E : zE} {M : zM} {Q : Int → zM → Prop} {p hr k : Int} (h1 : zR p) (h2 : zR hr) (h3 : zR k) (hp : 0 ≤ M 102 4 ∧ M 102 4 ≤ 8) (ho : rdOk M)
    (h : if (0 ≤ p ∧ p < M 102 4) ∧ (0 ≤ hr ∧ hr ≤ 99) ∧ (0 ≤ k ∧ k ≤ 99) then
      ∀ M', (∀ x, x ≠ 110 → x ≠ 111 → M' x = zup M 102 2 0 x) → Q (if (kn M k (M 102 6).toNat (100 * p + hr).toNat).1 = 0 then -10000 else (kn M k (M 102 6).toNat (100 * p + hr).toNat).2) M'
      else Q (-20000) (zup M 102 2 0)) : zP E mX12_reading [.inr (.inr 102), .inl p, .inl hr, .inl k] M Q := by
  refine vcX12_reading _ _ _ ?_
  intro M1 hM1
  have e1 : M1 102 4 = M 102 4 := by subst hM1; simp [zup_r]
  have e2 : M1 102 6 = M 102 6 := by subst hM1; simp [zup_r]
  have er : ∀ x, x ≠ 102 → M1 x = M x := fun x hx => by subst hM1; exact zup_ne _ _ _ hx
  have ek : ∀ i, kn M1 k (M1 102 6).toNat i = kn M k (M 102 6).toNat i := fun i => by
    rw [e2]
    exact kn_congr (er _ (by decide)) (er _ (by decide)) (er _ (by decide)) (er _ (by decide)) (er _ (by decide)) k _ i
  have ho1 : rdOk M1 := by
    unfold rdOk
    rw [e2, er 105 (by decide), er 106 (by decide), er 107 (by decide), er 108 (by decide), er 109 (by decide)]
    exact ho
  refine r_isPost h1 (by rw [e1]; exact hp) ?_
  rw [e1]
  refine ⟨by grind [zR], fun _ => by grind, fun _ => ?_⟩
  refine r_isHour h2 ?_
  refine ⟨by grind [zR], fun _ => by grind, fun _ => ?_⟩
  refine r_isHour h3 ?_
  refine ⟨by grind [zR], fun _ => ?_, fun _ => by grind⟩
  rw [if_pos (by grind)] at h
  refine r_know h3 ho1 (fun M' g1 g2 g3 => ?_)
  have hb : 0 ≤ 100 * p + hr ∧ 100 * p + hr < 800 := by grind
  have k1 := g2 (100 * p + hr).toNat (by omega)
  have k2 := g3 (100 * p + hr).toNat (by omega)
  rw [ek] at k1 k2
  have k01 := kn_01 (M := M) (fun i => (ho.2 i).2.2.2.2) k (M 102 6).toNat (100 * p + hr).toNat
  have hq := h M' (fun x a b => by rw [g1 x a b, hM1])
  refine ⟨hb, by grind [zR], fun hz => ?_, fun hz => ⟨hb, ?_⟩⟩
  · rw [if_pos (by rw [← k1]; exact hz)] at hq
    exact hq
  · rw [if_neg (by rw [← k1]; exact hz)] at hq
    rw [k2 (by grind)]
    exact hq
/-- all people of the first n places -/
def ap (M : zM) : Nat → Int
  | 0 => 0
  | n + 1 => ap M n + (if M 142 n = 0 then 0 else M 144 n)
theorem r_allPeople {E : zE} {M : zM} {Q : Int → zM → Prop} (hn : 0 ≤ M 102 69 ∧ M 102 69 ≤ 8) (ht : ∀ i, M 142 i = 0 ∨ M 142 i = 1) (h : Q (ap M (M 102 69).toNat) M) : zP E mX12_allPeople [.inr (.inr 102)] M Q := by
  refine vcX12_allPeople (fun n l1 l2 M' => M' = M ∧ 0 ≤ l2 ∧ l2 ≤ M 102 69 ∧ n = 20 - l2.toNat ∧ l1 = ap M l2.toNat) ⟨20, rfl, by omega, hn.1, rfl, rfl⟩ ?_
  rintro n l1 l2 M' ⟨rfl, a1, a2, rfl, rfl⟩
  have hs : (l2 + 1).toNat = l2.toNat + 1 := by omega
  have := ht l2.toNat
  refine ⟨by grind [zR], fun hc => ?_, fun hc => ⟨by omega, by grind [zR], fun hd => ?_, fun hd => ⟨by omega, ?_⟩⟩⟩
  · rw [show l2 = M' 102 69 by omega]
    exact h
  · exact ⟨_, (by omega : 20 - (l2 + 1).toNat < _), rfl, by omega, by omega, rfl, by rw [hs, ap, if_pos hd]⟩
  · exact ⟨_, (by omega : 20 - (l2 + 1).toNat < _), rfl, by omega, by omega, rfl, by rw [hs, ap, if_neg hd]⟩
/-- houses of the first n cells that are reached -/
def bu (M : zM) : Nat → Int
  | 0 => 0
  | n + 1 => bu M n + (if M 139 n ≤ 12 then M 129 n else 0)
theorem r_buried {E : zE} {M : zM} {Q : Int → zM → Prop} (hn : 4 ≤ M 102 51 * M 102 52 ∧ M 102 51 * M 102 52 ≤ 64) (ht : ∀ i, 0 ≤ M 139 i ∧ M 139 i ≤ 13) (h : Q (bu M (M 102 51 * M 102 52).toNat) M) : zP E mX12_buried [.inr (.inr 102)] M Q := by
  refine vcX12_buried (fun n l1 l2 M' => M' = M ∧ 0 ≤ l2 ∧ l2 ≤ M 102 51 * M 102 52 ∧ n = 100 - l2.toNat ∧ l1 = bu M l2.toNat) ⟨100, rfl, by omega, by omega, rfl, rfl⟩ ?_
  rintro n l1 l2 M' ⟨rfl, a1, a2, rfl, rfl⟩
  have hs : (l2 + 1).toNat = l2.toNat + 1 := by omega
  have := ht l2.toNat
  generalize hW : M' 102 51 * M' 102 52 = WT at *
  refine ⟨by grind [zR], fun hc => ?_, fun hc => ⟨by omega, by grind [zR], fun hd => ?_, fun hd => ⟨by omega, ?_⟩⟩⟩
  · rw [show l2 = WT by omega]
    exact h
  · exact ⟨_, (by omega : 100 - (l2 + 1).toNat < _), rfl, by omega, by omega, rfl, by rw [hs, bu, if_neg (by omega)]⟩
  · exact ⟨_, (by omega : 100 - (l2 + 1).toNat < _), rfl, by omega, by omega, rfl, by rw [hs, bu, if_pos hd]⟩
/-- the first hour from h on, of f hours, whose level is the threshold at least; and the lag -/
def wfrom (M : zM) (p : Nat) : Nat → Nat → Int
  | 0, _ => -1
  | f + 1, h => if M 145 p ≤ M 154 h then h + M 146 p else wfrom M p f (h + 1)
theorem r_warnedAt {E : zE} {M : zM} {Q : Int → zM → Prop} {p : Int} (hp : 0 ≤ p ∧ p < 8) (hl : ∀ i, 0 ≤ M 154 i ∧ M 154 i ≤ 4) (ht : ∀ i, 0 ≤ M 145 i ∧ M 145 i ≤ 4) (h : Q (wfrom M p.toNat 100 0) M) : zP E mX12_warnedAt [.inr (.inr 102), .inl p] M Q := by
  refine vcX12_warnedAt p (fun n l1 l2 M' => M' = M ∧ l1 = p ∧ 0 ≤ l2 ∧ l2 ≤ 100 ∧ n = 200 - l2.toNat ∧ wfrom M p.toNat 100 0 = wfrom M p.toNat (100 - l2.toNat) l2.toNat) ⟨200, rfl, rfl, by omega, by omega, rfl, rfl⟩ ?_
  rintro n l1 l2 M' ⟨rfl, rfl, a1, a2, rfl, a3⟩
  have := hl l2.toNat
  have := ht l1.toNat
  refine ⟨by grind [zR], fun hc => ?_, fun hc => ⟨⟨a1, hc⟩, hp, by grind [zR], fun hd => ?_, fun hd => ⟨hp, ?_⟩⟩⟩
  · rw [a3, show 100 - l2.toNat = 0 by omega] at h
    exact h
  · refine ⟨_, (by omega : 200 - (l2 + 1).toNat < _), rfl, rfl, by omega, by omega, rfl, ?_⟩
    rw [a3, show 100 - l2.toNat = (100 - (l2 + 1).toNat) + 1 by omega, wfrom, if_neg (by omega), show (l2 + 1).toNat = l2.toNat + 1 by omega]
  · rw [a3, show 100 - l2.toNat = (99 - l2.toNat) + 1 by omega, wfrom, if_pos hd, show ((l2.toNat : Nat) : Int) = l2 by omega] at h
    exact h
theorem r_candidate {E : zE} {M : zM} {Q : Int → zM → Prop} {c : Int} (h1 : zR c) (hw : zR (M 102 51 * M 102 52)) (hn : 0 ≤ M 102 96 ∧ M 102 96 ≤ 6) (hc6 : ∀ i, zR (M 162 i))
    (h : if M 102 96 < 6 ∧ (0 ≤ c ∧ c < M 102 51 * M 102 52) ∧ (∀ i : Nat, i < (M 102 96).toNat → M 162 i ≠ c) then
      Q (M 102 96) (zup (zup (zup M 102 2 0) 162 (M 102 96).toNat c) 102 96 (M 102 96 + 1)) else Q (-1) (zup M 102 2 0)) : zP E mX12_candidate [.inr (.inr 102), .inl c] M Q := by
  refine vcX12_candidate c (fun n l1 l2 M' => M' = zup M 102 2 0 ∧ l1 = c ∧ 0 ≤ l2 ∧ l2 ≤ M 102 96 ∧ n = 20 - l2.toNat ∧ M 102 96 < 6 ∧ (0 ≤ c ∧ c < M 102 51 * M 102 52) ∧ (∀ i : Nat, i < l2.toNat → M 162 i ≠ c)) ?_ ?_
  · intro M1 hM1
    have e1 : M1 102 51 = M 102 51 := by subst hM1; simp [zup_r]
    have e2 : M1 102 52 = M 102 52 := by subst hM1; simp [zup_r]
    have e3 : M1 102 96 = M 102 96 := by subst hM1; simp [zup_r]
    rw [e3]
    refine ⟨by grind [zR], fun hc => ?_, fun hc => ?_⟩
    · rw [if_neg (by omega)] at h
      rw [hM1]
      exact h
    · refine r_isCell h1 (by rw [e1, e2]; exact hw) ?_
      rw [e1, e2]
      refine ⟨by grind [zR], fun hd => ?_, fun hd => ?_⟩
      · exact ⟨20, hM1, rfl, by omega, hn.1, rfl, by omega, by grind, fun i hi => by simp at hi⟩
      · rw [if_neg (by grind)] at h
        rw [hM1]
        exact h
  · rintro n l1 l2 M' ⟨hM', rfl, a1, a2, rfl, a3, a4, a5⟩
    have e3 : M' 102 96 = M 102 96 := by subst hM'; simp [zup_r]
    have e4 : M' 162 = M 162 := by subst hM'; exact zup_ne _ _ _ (by decide)
    have := hc6 l2.toNat
    rw [e3, e4]
    refine ⟨by grind [zR], fun hc => ⟨by omega, ?_⟩, fun hc => ⟨by omega, by grind [zR], fun hd => ?_, fun hd => ?_⟩⟩
    · have he : l2 = M 102 96 := by omega
      rw [if_pos ⟨a3, a4, by rw [← he]; exact a5⟩] at h
      rintro M4 rfl
      rintro M5 rfl
      simp [zup_r, e3]
      rw [hM']
      exact h
    · refine ⟨_, (by omega : 20 - (l2 + 1).toNat < _), hM', rfl, by omega, by omega, rfl, a3, a4, fun i hi => ?_⟩
      by_cases hi2 : i < l2.toNat
      · exact a5 i hi2
      · rw [show i = l2.toNat by omega]
        exact hd
    · rw [if_neg (fun hx => hx.2.2 l2.toNat (by omega) hd)] at h
      rw [hM']
      exact h
