/-! one call on fresh objects: the reference -/
def rS (M M' : zM) : Prop := ∀ x, 102 ≤ x → x < 165 → M' x = M x
theorem rS_refl (M : zM) : rS M M := fun _ _ _ => rfl
theorem rS_zup {M M' : zM} {a i : Nat} {v : Int} (ha : a < 102) (h : rS M M') : rS M (zup M' a i v) := fun x hx hy => by
  rw [zup_ne _ _ _ (by omega)]
  exact h x hx hy
theorem rS_out {M M' : zM} {i : Nat} {v : Int} (h : rS M M') : rS M (zup M' 165 i v) := fun x hx hy => by
  rw [zup_ne _ _ _ (by omega)]
  exact h x hx hy
theorem rS_fill {M M' : zM} {a n : Nat} {v : Int} (ha : a < 102) (h : rS M M') : rS M (zfill M' a n v) := fun x hx hy => by
  have : zfill M' a n v x = M' x := by
    funext y
    rw [zfill_r, if_neg (by omega)]
  rw [this]
  exact h x hx hy
theorem rS_cPl {M M' : zM} (h : rS M M') : rS M (cPl M') := rS_zup (by decide) (rS_zup (by decide) (rS_zup (by decide) h))
theorem rS_cEs {M M' : zM} (h : rS M M') : rS M (cEs M') := rS_cPl (rS_zup (by decide) (rS_zup (by decide) (rS_zup (by decide) (rS_zup (by decide) h))))
theorem rS_cLv {M M' : zM} (h : rS M M') : rS M (cLv M') := rS_cEs (rS_zup (by decide) (rS_zup (by decide) (rS_zup (by decide) h)))
theorem rS_cAl {M M' : zM} {k : Int} (h : rS M M') : rS M (cAl M' k) := rS_cEs (rS_zup (by decide) h)
set_option maxRecDepth 100000 in
theorem n0_z : ∀ j ∈ [1, 2, 3, 4, 6, 15, 32, 34, 37, 57, 58, 69, 76, 96], nM0 102 j = 0 := by decide +kernel
set_option maxRecDepth 100000 in
theorem n0_w : nM0 102 51 = 4 ∧ nM0 102 52 = 4 ∧ nM0 102 16 = -1 := by decide +kernel
set_option maxRecDepth 100000 in
theorem n0_readPost (i : Nat) : nM0 105 i = 0 := rfl
set_option maxRecDepth 100000 in
theorem n0_readHour (i : Nat) : nM0 106 i = 0 := rfl
set_option maxRecDepth 100000 in
theorem n0_readValue (i : Nat) : nM0 107 i = 0 := rfl
set_option maxRecDepth 100000 in
theorem n0_readTold (i : Nat) : nM0 108 i = 0 := rfl
set_option maxRecDepth 100000 in
theorem n0_readGone (i : Nat) : nM0 109 i = 0 := rfl
set_option maxRecDepth 100000 in
theorem n0_wall (i : Nat) : nM0 130 i = 0 := rfl
set_option maxRecDepth 100000 in
theorem n0_trench (i : Nat) : nM0 131 i = 0 := rfl
set_option maxRecDepth 100000 in
theorem n0_houses (i : Nat) : nM0 129 i = 0 := rfl
set_option maxRecDepth 100000 in
theorem n0_heights (i : Nat) : nM0 128 i = 0 := rfl
set_option maxRecDepth 100000 in
theorem n0_cand (i : Nat) : nM0 162 i = 0 := rfl
/-- the reference as it is made -/
def rF (M : zM) : Prop := (M 102 1 = 0 ∧ M 102 3 = 0 ∧ M 102 4 = 0 ∧ M 102 6 = 0 ∧ M 102 15 = 0 ∧ M 102 16 = -1 ∧ M 102 32 = 0 ∧ M 102 34 = 0 ∧ M 102 37 = 0 ∧ M 102 57 = 0 ∧ M 102 58 = 0 ∧ M 102 69 = 0 ∧ M 102 76 = 0 ∧ M 102 96 = 0 ∧ M 102 51 = 4 ∧ M 102 52 = 4) ∧
  (∀ i, M 105 i = 0 ∧ M 106 i = 0 ∧ M 107 i = 0 ∧ M 108 i = 0 ∧ M 109 i = 0) ∧ (∀ i, M 130 i = 0 ∧ M 131 i = 0 ∧ M 129 i = 0 ∧ M 128 i = 0 ∧ M 162 i = 0)
theorem rF_0 : rF nM0 := ⟨⟨n0_z _ (by decide), n0_z _ (by decide), n0_z _ (by decide), n0_z _ (by decide), n0_z _ (by decide), n0_w.2.2, n0_z _ (by decide), n0_z _ (by decide), n0_z _ (by decide), n0_z _ (by decide), n0_z _ (by decide), n0_z _ (by decide), n0_z _ (by decide), n0_z _ (by decide), n0_w.1, n0_w.2.1⟩, fun i => ⟨n0_readPost i, n0_readHour i, n0_readValue i, n0_readTold i, n0_readGone i⟩, fun i => ⟨n0_wall i, n0_trench i, n0_houses i, n0_heights i, n0_cand i⟩⟩
theorem rF_S {M : zM} (h : rS nM0 M) : rF M := by
  have h0 := rF_0
  unfold rF at *
  rw [h 102 (by decide) (by decide), h 105 (by decide) (by decide), h 106 (by decide) (by decide), h 107 (by decide) (by decide), h 108 (by decide) (by decide), h 109 (by decide) (by decide), h 130 (by decide) (by decide), h 131 (by decide) (by decide), h 129 (by decide) (by decide), h 128 (by decide) (by decide), h 162 (by decide) (by decide)]
  exact h0
theorem rF_thrown {M : zM} (h : rF M) : rF (zup M 102 2 0) := by simpa [rF, zup_r] using h
theorem rF_rd {M : zM} (h : rF M) : rdOk M := by
  obtain ⟨h1, h2, -⟩ := h
  refine ⟨by omega, fun i => ?_⟩
  obtain ⟨a, b, c, d, e⟩ := h2 i
  rw [a, b, c, d, e]
  decide
/-- fresh still, but for the scratch rows -/
theorem rF_kn {M M' : zM} (h : rF M) (hk : ∀ x, x ≠ 110 → x ≠ 111 → M' x = M x) : rF M' := by
  unfold rF at *
  rw [hk 102 (by decide) (by decide), hk 105 (by decide) (by decide), hk 106 (by decide) (by decide), hk 107 (by decide) (by decide), hk 108 (by decide) (by decide), hk 109 (by decide) (by decide), hk 130 (by decide) (by decide), hk 131 (by decide) (by decide), hk 129 (by decide) (by decide), hk 128 (by decide) (by decide), hk 162 (by decide) (by decide)]
  exact h
theorem f_rawOf {E : zE} {M : zM} {Q : Int → zM → Prop} {a k : Int} (hk : zR k) (hF : rF M) (h : ∀ M', rF M' → (∀ x, x ≠ 110 → x ≠ 111 → M' x = M x) → Q 0 M') : zP E mX12_rawOf [.inr (.inr 102), .inl a, .inl k] M Q := by
  refine vcX12_rawOf a k (fun n l1 l3 l4 M' => l3 = 0 ∧ l4 = 0 ∧ rF M' ∧ (∀ x, x ≠ 110 → x ≠ 111 → M' x = M x)) ?_ ?_
  · refine r_know hk (rF_rd hF) (fun M' g1 g2 g3 => ⟨0, rfl, rfl, rF_kn hF g1, g1⟩)
  · rintro n l1 l3 l4 M' ⟨rfl, rfl, g, g1⟩
    have e := g.1.2.2.2.2.2.2.1
    rw [e]
    exact ⟨⟨zRd rfl, zRd rfl⟩, fun _ => h M' g g1, fun hc => absurd hc (by decide)⟩
theorem f_raw {E : zE} {M : zM} {Q : Int → zM → Prop} {a k : Int} (ha : zR a) (hk : zR k) (hF : rF M) (h : ∀ M', Q (if (0 ≤ a ∧ a ≤ 99) ∧ (0 ≤ k ∧ k ≤ 99) then 0 else -1) M') : zP E mX12_raw [.inr (.inr 102), .inl a, .inl k] M Q := by
  refine vcX12_raw _ _ ?_
  rintro M1 rfl
  refine r_isHour ha ?_
  refine ⟨by grind [zR], fun _ => by have := h (zup M 102 2 0); grind, fun _ => ?_⟩
  refine r_isHour hk ?_
  refine ⟨by grind [zR], fun _ => by have := h (zup M 102 2 0); grind, fun _ => ?_⟩
  refine f_rawOf hk (rF_thrown hF) (fun M' _ _ => ?_)
  have := h M'
  rwa [if_pos (by grind)] at this
theorem f_tries {E : zE} {M : zM} {Q : Int → zM → Prop} {a b k : Int} (ha : zR a) (hF : rF M) (h : ∀ M', Q (-9223372036854775808) M') : zP E mX12_tries [.inr (.inr 102), .inl a, .inl b, .inl k] M Q := by
  refine vcX12_tries _ _ _ ?_
  rintro M1 rfl
  have e := (rF_thrown hF).1.2.2.2.2.2.2.1
  rw [e]
  exact ⟨ha, fun _ => h _, fun _ => ⟨⟨ha, zRd rfl⟩, fun _ => h _, fun _ => by omega⟩⟩
theorem f_level {E : zE} {M : zM} {Q : Int → zM → Prop} {a : Int} (ha : zR a) (hF : rF M) (h : ∀ M', Q (if (0 ≤ a ∧ a ≤ 99) then 0 else -1) M') : zP E mX12_level [.inr (.inr 102), .inl a] M Q := by
  refine vcX12_level _ ?_
  rintro M1 rfl
  refine r_isHour ha ?_
  refine ⟨by grind [zR], fun _ => by have := h (zup M 102 2 0); grind, fun hc => ?_⟩
  have hF1 := rF_thrown hF
  have e := hF1.1.2.2.2.2.2.2.2.1
  have hra : 0 ≤ a ∧ a ≤ 99 := by grind
  refine vcX12_levelAt a (fun n l1 l2 l3 M' => l1 = a ∧ l2 = 0 ∧ rF M' ∧ ((n = 1 ∧ l3 = a) ∨ (n = 0 ∧ l3 = a + 1))) ?_ ?_
  · rw [e]
    exact ⟨by grind [zR], fun _ => ⟨1, rfl, rfl, hF1, Or.inl ⟨rfl, by omega⟩⟩, fun hc => by omega⟩
  · rintro n l1 l2 l3 M' ⟨rfl, rfl, g, ⟨rfl, rfl⟩ | ⟨rfl, rfl⟩⟩
    · refine ⟨⟨ha, ha⟩, fun hc => by omega, fun _ => ?_⟩
      refine f_rawOf ha g (fun M2 g2 _ => ?_)
      exact ⟨⟨zRd rfl, zRd rfl⟩, fun _ => ⟨0, by omega, rfl, rfl, g2, Or.inr ⟨rfl, rfl⟩⟩, fun hc => by omega⟩
    · refine ⟨⟨by grind [zR], ha⟩, fun _ => ?_, fun hc => by omega⟩
      have := h M'
      rwa [if_pos hra] at this
/-- scratch rows of a cost -/
def rK (M M' : zM) : Prop := ∀ x, x ≠ 110 → x ≠ 111 → x ≠ 155 → x ≠ 154 → M' x = M x
theorem rF_K {M M' : zM} (h : rF M) (hk : rK M M') : rF M' := by
  have k : ∀ x, x ≠ 110 ∧ x ≠ 111 ∧ x ≠ 155 ∧ x ≠ 154 → M' x = M x := fun x a => hk x a.1 a.2.1 a.2.2.1 a.2.2.2
  unfold rF at *
  rw [k 102 (by decide), k 105 (by decide), k 106 (by decide), k 107 (by decide), k 108 (by decide), k 109 (by decide), k 130 (by decide), k 131 (by decide), k 129 (by decide), k 128 (by decide), k 162 (by decide)]
  exact h
theorem f_allLevels {E : zE} {M : zM} {Q : Int → zM → Prop} (hF : rF M) (h : ∀ M', rK M M' → Q 0 M') : zP E mX12_allLevels [.inr (.inr 102)] M Q := by
  refine vcX12_allLevels
    (fun n l1 M' => 0 ≤ l1 ∧ l1 ≤ 100 ∧ n = 50000 - l1.toNat ∧ rK M M' ∧ (∀ i : Nat, i < l1.toNat → M' 155 i = 0))
    (fun n l1 M' => 0 ≤ l1 ∧ l1 ≤ 100 ∧ n = 10 * (100 - l1.toNat) ∧ rK M M' ∧ (∀ i : Nat, i < 100 → M' 155 i = 0))
    (fun n l1 l2 M' => 0 ≤ l1 ∧ l1 < 100 ∧ ((l2 = l1 ∧ n = 10 * (100 - l1.toNat) - 1) ∨ (l2 = l1 + 1 ∧ n = 10 * (100 - l1.toNat) - 2)) ∧ rK M M' ∧ (∀ i : Nat, i < 100 → M' 155 i = 0) ∧ M' 154 l1.toNat = 0)
    ⟨50000, by omega, by omega, rfl, fun _ _ _ _ _ => rfl, fun i hi => by omega⟩ ?_ ?_ ?_
  · rintro n l1 M' ⟨a1, a2, rfl, a3, a4⟩
    refine ⟨by grind [zR], fun hc => ⟨_, ?_, by omega, by omega, rfl, a3, fun i hi => a4 i (by omega)⟩, fun hc => ?_⟩
    · omega
    · refine f_rawOf (by grind [zR]) (rF_K hF a3) (fun M2 g1 g2 => ⟨⟨a1, hc⟩, ?_⟩)
      rintro M3 rfl
      refine ⟨50000 - (l1 + 1).toNat, by omega, by omega, by omega, rfl, fun x b1 b2 b3 b4 => ?_, fun i hi => ?_⟩
      · rw [zup_ne _ _ _ b3, g2 x b1 b2, a3 x b1 b2 b3 b4]
      · rw [zup_r, if_pos rfl]
        by_cases hi2 : i = l1.toNat
        · rw [if_pos hi2]
        · rw [if_neg hi2, g2 _ (by decide) (by decide)]
          exact a4 i (by omega)
  · rintro n l1 M' ⟨a1, a2, rfl, a3, a4⟩
    refine ⟨by grind [zR], fun hc => h M' a3, fun hc => ⟨⟨a1, hc⟩, ?_⟩⟩
    rintro M4 rfl
    have hK2 : rK M (zup M' 154 l1.toNat 0) := fun x b1 b2 b3 b4 => by rw [zup_ne _ _ _ b4]; exact a3 x b1 b2 b3 b4
    have e := (rF_K hF hK2).1.2.2.2.2.2.2.2.1
    rw [e]
    refine ⟨by grind [zR], fun _ => ⟨10 * (100 - l1.toNat) - 1, by omega, a1, hc, Or.inl ⟨by omega, rfl⟩, hK2, fun i hi => ?_, by simp [zup_r]⟩, fun hc => by omega⟩
    rw [zup_ne _ _ _ (by decide)]
    exact a4 i hi
  · rintro n l1 l2 M' ⟨a1, a2, a5, a3, a4, a6⟩
    rcases a5 with ⟨rfl, rfl⟩ | ⟨rfl, rfl⟩
    · have b1 := a4 l2.toNat (by omega)
      refine ⟨⟨by grind [zR], by grind [zR]⟩, fun hc => by omega, fun _ => ⟨⟨a1, a2⟩, ⟨a1, a2⟩, ?_⟩⟩
      rw [b1, a6]
      refine ⟨⟨zRd rfl, zRd rfl⟩, fun _ => ⟨⟨a1, a2⟩, ⟨a1, a2⟩, ?_⟩, fun hc => by omega⟩
      rintro M5 rfl
      refine ⟨_, ?_, a1, a2, Or.inr ⟨rfl, rfl⟩, fun x c1 c2 c3 c4 => by rw [zup_ne _ _ _ c4]; exact a3 x c1 c2 c3 c4, fun i hi => ?_, by simp [zup_r]⟩
      · omega
      · rw [zup_ne _ _ _ (by decide)]
        exact a4 i hi
    · refine ⟨⟨by grind [zR], by grind [zR]⟩, fun _ => ⟨10 * (100 - (l1 + 1).toNat), by omega, by omega, by omega, rfl, a3, a4⟩, fun hc => by omega⟩
theorem f_costs {E : zE} {M : zM} {Q : Int → zM → Prop} (hF : rF M) (h : Q 0 (zup (zup M 102 98 0) 102 99 0)) : zP E mX12_costs [.inr (.inr 102)] M Q := by
  refine vcX12_costs (fun n l1 M' => l1 = 0 ∧ M' = zup (zup M 102 98 0) 102 99 0) ?_ ?_
  · rintro M1 rfl M2 rfl
    exact ⟨0, rfl, rfl⟩
  · rintro n l1 M' ⟨rfl, rfl⟩
    have e : (zup (zup M 102 98 0) 102 99 0) 102 58 = 0 := by
      have := hF.1.2.2.2.2.2.2.2.2.2.2.1
      simpa [zup_r] using this
    rw [e]
    exact ⟨⟨zRd rfl, zRd rfl⟩, fun _ => h, fun hc => by omega⟩
theorem f_cost {E : zE} {M : zM} {Q : Int → zM → Prop} {a : Int} (ha : zR a) (hF : rF M) (h : ∀ M', Q (if (0 ≤ a ∧ a ≤ 1) then 0 else -1) M') : zP E mX12_cost [.inr (.inr 102), .inl a] M Q := by
  refine vcX12_cost _ ?_
  rintro M1 rfl
  refine r_isIn ha (zRd rfl) (zRd rfl) ?_
  refine ⟨by grind [zR], fun hc => ?_, fun _ => by have := h (zup M 102 2 0); grind⟩
  refine f_allLevels (rF_thrown hF) (fun M2 g2 => ?_)
  refine f_costs (rF_K (rF_thrown hF) g2) ?_
  have hra : 0 ≤ a ∧ a ≤ 1 := by grind
  simp [zup_r]
  have := h (zup (zup M2 102 98 0) 102 99 0)
  rw [if_pos hra] at this
  exact ⟨ha, fun _ => this, fun _ => this⟩
theorem f_best {E : zE} {M : zM} {Q : Int → zM → Prop} {a b : Int} (ha : zR a) (hb : zR b) (hF : rF M) (h : ∀ M', Q (if (0 ≤ a ∧ a ≤ 2) ∧ (0 ≤ b ∧ b ≤ 4) then (if b = 1 ∨ b = 2 then -1 else 0) else -1) M') : zP E mX12_best [.inr (.inr 102), .inl a, .inl b] M Q := by
  let J : zM → Prop := fun M' => M' 102 96 = 0 ∧ M' 102 100 = 0 ∧ M' 102 101 = -1 ∧ M' 102 102 = -1 ∧ M' 102 103 = 0 ∧ M' 102 104 = 0
  refine vcX12_best a b (fun n l1 l2 l3 M' => n = 2 ∧ l1 = a ∧ l2 = b ∧ l3 = 0 ∧ J M' ∧ (0 ≤ a ∧ a ≤ 2) ∧ (0 ≤ b ∧ b ≤ 4)) (fun n l1 l2 l3 M' => n = 1 ∧ l1 = a ∧ l2 = b ∧ l3 = 0 ∧ J M' ∧ (0 ≤ a ∧ a ≤ 2) ∧ (0 ≤ b ∧ b ≤ 4)) (fun n l1 l2 l3 l4 M' => False) ?_ ?_ ?_ (fun _ _ _ _ _ _ h => h.elim)
  · rintro M1 rfl
    refine r_isIn ha (zRd rfl) (zRd rfl) ?_
    refine ⟨by grind [zR], fun _ => by have := h (zup M 102 2 0); grind, fun hc => ?_⟩
    refine r_isIn hb (zRd rfl) (zRd rfl) ?_
    refine ⟨by grind [zR], fun hc2 => ?_, fun _ => by have := h (zup M 102 2 0); grind⟩
    refine f_allLevels (rF_thrown hF) (fun M2 g2 => ?_)
    rintro M8 rfl
    refine vcX12_tries1 _ _ _ ?_
    have hF2 := rF_K (rF_thrown hF) g2
    have hF3 : rF (zup M2 102 100 (-1)) := by simpa [rF, zup_r] using hF2
    refine f_costs hF3 ?_
    have e := hF3.1.2.2.2.2.2.2.2.2.2.2.2.2.2.1
    have hz : zR (-1) := zRd rfl
    simp [zup_r, hz]
    refine ⟨?_, by grind, by grind⟩
    simp [J, zup_r]
    simpa [zup_r] using e
  · rintro n l1 l2 l3 M' ⟨rfl, rfl, rfl, rfl, g, g1, g2⟩
    rw [g.1]
    exact ⟨⟨zRd rfl, zRd rfl⟩, fun _ => ⟨1, by omega, rfl, rfl, rfl, rfl, g, g1, g2⟩, fun hc => by omega⟩
  · rintro n l1 l2 l3 M' ⟨rfl, rfl, rfl, rfl, g, g1, g2⟩
    obtain ⟨e1, e2, e3, e4, e5, e6⟩ := g
    have := h M'
    rw [if_pos ⟨g1, g2⟩] at this
    rw [e1, e2, e3, e4, e5, e6]
    refine ⟨⟨zRd rfl, zRd rfl⟩, fun _ => ⟨hb, fun c1 => ⟨hb, fun c2 => ⟨hb, fun c3 => ⟨hb, fun c4 => ?_, fun c4 => ?_⟩, fun c3 => ?_⟩, fun c2 => ?_⟩, fun c1 => ?_⟩, fun hc => by omega⟩
    · rwa [if_neg (by omega)] at this
    · rwa [if_neg (by omega)] at this
    · rwa [if_pos (by omega)] at this
    · rwa [if_pos (by omega)] at this
    · rwa [if_neg (by omega)] at this
theorem f_rules {E : zE} {M : zM} {Q : Int → zM → Prop} {a : Int} (ha : zR a) (hF : rF M) (h : ∀ M', Q (if a = 0 then 0 else -2) M') : zP E mX12_rules [.inr (.inr 102), .inl a] M Q := by
  let J : zM → Prop := fun M' => M' 102 19 = 0 ∧ M' 102 33 = 0 ∧ M' 102 38 = 0 ∧ M' 102 36 = 0
  let K : zM → Prop := fun M' => M' 102 32 = 0 ∧ M' 102 37 = 0 ∧ M' 102 36 = 0
  refine vcX12_rules a (fun n M' => n = 2 ∧ J M' ∧ a = 0) (fun n l2 M' => n = 1 ∧ l2 = 0 ∧ K M' ∧ a = 0) (fun n l2 M' => n = 0 ∧ l2 = 0 ∧ K M' ∧ a = 0) ?_ ?_ ?_ ?_
  · rintro M1 rfl
    have e := (rF_thrown hF).1.1
    rw [e]
    refine ⟨ha, fun _ => by have := h (zup M 102 2 0); grind, fun _ => ⟨⟨ha, zRd rfl⟩, fun hc => ?_, fun _ => by have := h (zup M 102 2 0); grind⟩⟩
    have h0 : a = 0 := by omega
    subst h0
    rintro M2 rfl M3 rfl M4 rfl M5 rfl M6 rfl M7 rfl M8 rfl M9 rfl M10 rfl M11 rfl
    refine vcX12_take (fun _ _ => False) (fun _ _ => False) (fun _ _ => False) ?_ (fun _ _ h => h.elim) (fun _ _ h => h.elim) (fun _ _ h => h.elim)
    simp [zup_r, zRd]
    simp [J, zup_r]
  · rintro n M' ⟨rfl, ⟨g1, g2, g3, g4⟩, rfl⟩
    rw [g1]
    refine ⟨zRd rfl, fun _ => ?_, fun hc => absurd rfl hc⟩
    rintro M14 rfl M15 rfl M16 rfl
    refine ⟨1, by omega, rfl, rfl, ?_, rfl⟩
    simp [K, zup_r, g2, g3, g4]
  · rintro n l2 M' ⟨rfl, rfl, ⟨g1, g2, g3⟩, rfl⟩
    rw [g1]
    exact ⟨⟨zRd rfl, zRd rfl⟩, fun _ => ⟨0, by omega, rfl, rfl, ⟨g1, g2, g3⟩, rfl⟩, fun hc => by omega⟩
  · rintro n l2 M' ⟨rfl, rfl, ⟨g1, g2, g3⟩, rfl⟩
    rw [g1, g2, g3]
    have := h M'
    exact ⟨⟨zRd rfl, zRd rfl⟩, fun _ => ⟨zRd rfl, fun _ => this, fun hc => absurd rfl hc⟩, fun hc => by omega⟩
