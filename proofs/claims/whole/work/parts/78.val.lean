/-! what is known of a post and an hour -/
theorem lix_s (M : zM) (k : Int) (m : Nat) (a : Nat) : (lix M m (a : Int) = -1 → kn M k m a = (0, 0)) ∧ (∀ t : Nat, lix M m (a : Int) = (t : Int) → t < m ∧ 100 * M 105 t + M 106 t = (a : Int) ∧ kn M k m a = kn M k (t + 1) a) ∧ (lix M m (a : Int) = -1 ∨ (0 ≤ lix M m (a : Int) ∧ lix M m (a : Int) < m)) := by
  induction m with
  | zero => exact ⟨fun _ => rfl, fun t ht => absurd ht (by show ¬ (-1 : Int) = (t : Int); omega), Or.inl rfl⟩
  | succ m ih =>
    obtain ⟨i1, i2, i3⟩ := ih
    have un : lix M (m + 1) (a : Int) = if 100 * M 105 m + M 106 m = (a : Int) then (m : Int) else lix M m (a : Int) := rfl
    have uk : kn M k (m + 1) a = if M 108 m ≤ k ∧ 100 * M 105 m + M 106 m = (a : Int) then (1 - M 109 m, M 107 m) else kn M k m a := rfl
    by_cases h : 100 * M 105 m + M 106 m = (a : Int)
    · rw [un, if_pos h]
      refine ⟨fun q => by omega, fun t ht => ?_, Or.inr (by omega)⟩
      have : t = m := by omega
      subst this
      exact ⟨by omega, h, rfl⟩
    · rw [un, if_neg h, uk, if_neg (fun q => h q.2)]
      refine ⟨i1, fun t ht => ?_, by omega⟩
      obtain ⟨a1, a2, a3⟩ := i2 t ht
      exact ⟨by omega, a2, a3⟩
/-- the class's answer: a value or -10000 -/
def knV (M : zM) (k : Int) (a : Nat) : Int := if (kn M k (M 102 6).toNat a).1 = 0 then -10000 else (kn M k (M 102 6).toNat a).2
theorem kn_r {M : zM} (ho : rdOk M) (k : Int) (m a : Nat) : ((kn M k m a).1 = 0 ∨ (kn M k m a).1 = 1) ∧ (-9999 ≤ (kn M k m a).2 ∧ (kn M k m a).2 ≤ 9999) := by
  induction m with
  | zero => exact ⟨Or.inl rfl, by show -9999 ≤ (0 : Int) ∧ (0 : Int) ≤ 9999; omega⟩
  | succ m ih =>
    obtain ⟨b1, b2, b3, b4, b5⟩ := ho.2 m
    have uk : kn M k (m + 1) a = if M 108 m ≤ k ∧ 100 * M 105 m + M 106 m = (a : Int) then (1 - M 109 m, M 107 m) else kn M k m a := rfl
    rw [uk]
    split
    · exact ⟨by show 1 - M 109 m = 0 ∨ 1 - M 109 m = 1; omega, b3⟩
    · exact ih
theorem knV_r {M : zM} (ho : rdOk M) (k : Int) (a : Nat) : -10000 ≤ knV M k a ∧ knV M k a ≤ 9999 := by
  have := kn_r ho k (M 102 6).toNat a
  unfold knV
  split <;> omega
theorem c_known {E : zE} {M : zM} {Q : Int → zM → Prop} {k p h0 : Int} (hR : rRdg M) (hk : zR k) (hp : 0 ≤ p ∧ p < 8) (hh : 0 ≤ h0 ∧ h0 ≤ 99) (h : Q (knV M k (100 * p + h0).toNat) M) : zP E mX5_known [.inr (.inr 20), .inl p, .inl h0, .inl k] M Q := by
  obtain ⟨r1, r2, r3, r4, r5, r6⟩ := hR
  obtain ⟨a, ha⟩ : ∃ a : Nat, 100 * p + h0 = (a : Int) := ⟨(100 * p + h0).toNat, by omega⟩
  have hn := r2.1
  obtain ⟨n, hnn⟩ : ∃ n : Nat, M 102 6 = (n : Int) := ⟨(M 102 6).toNat, by omega⟩
  have ai : (p * 100 + h0).toNat = a := by omega
  have ai2 : (100 * p + h0).toNat = a := by omega
  rw [ai2] at h
  unfold knV at h
  rw [hnn] at h r1 hn r6
  simp only [hnn] at r4 r5
  simp only [Int.toNat_natCast] at h r6
  refine vcX5_known p h0 k (fun c l3 l4 l5 M' => M' = M ∧ l3 = k ∧ ∃ m i : Nat, l5 = (i : Int) ∧ l4 = lix M m (a : Int) ∧ i + m ≤ n ∧ c = n - i ∧ kn M k n a = kn M k m a) ⟨by omega, n - 0, rfl, rfl, n, 0, rfl, by rw [ai]; exact r6 a (by omega), by omega, rfl, rfl⟩ ?_
  rintro c l3 l4 l5 M' ⟨rfl, rfl, m, i, rfl, rfl, him, rfl, hkn⟩
  obtain ⟨s1, s2, s3⟩ := lix_s M' l3 m a
  rw [r1]
  have no : lix M' m (a : Int) = -1 → Q (-10000) M' := fun q => by
    rw [hkn, s1 q, if_pos rfl] at h
    exact h
  refine ⟨⟨by unfold zR; omega, by unfold zR; omega⟩, fun q => no ?_, fun q => ⟨by unfold zR; omega, no, fun q1 => ?_⟩⟩
  · have : m = 0 := by omega
    subst this
    rfl
  · obtain ⟨t, ht⟩ : ∃ t : Nat, lix M' m (a : Int) = (t : Int) := ⟨(lix M' m (a : Int)).toNat, by omega⟩
    obtain ⟨t1, t2, t3⟩ := s2 t ht
    have b := r2.2 t
    have te : (t : Int).toNat = t := Int.toNat_natCast t
    have uk : kn M' l3 (t + 1) a = if M' 108 t ≤ l3 ∧ 100 * M' 105 t + M' 106 t = (a : Int) then (1 - M' 109 t, M' 107 t) else kn M' l3 t a := rfl
    rw [ht, te, r3]
    refine ⟨by omega, ⟨by unfold zR; omega, hk⟩, fun q2 => ⟨by omega, n - (i + 1), by omega, rfl, rfl, t, i + 1, by omega, ?_, by omega, rfl, ?_⟩, fun q2 => ⟨by omega, ?_⟩⟩
    · rw [r5 t (by omega), t2]
    · rw [hkn, t3, uk, if_neg (fun q3 => absurd q3.1 (Int.not_le.mpr q2))]
    · have e : kn M' l3 n a = (1 - M' 109 t, M' 107 t) := by rw [hkn, t3, uk, if_pos ⟨q2, t2⟩]
      rw [e] at h
      rw [r4 t (by omega)]
      obtain ⟨-, -, -, -, b5⟩ := b
      rcases b5 with b5 | b5
      · rw [b5] at h ⊢
        simpa using h
      · rw [b5] at h ⊢
        simpa using h
theorem q_reading {E : zE} {k : Nat} {M : zM} {P' : zM → Prop} {p hr kk : Int} (hA : RelA k M) (h1 : zR p) (h2 : zR hr) (h3 : zR kk)
    (h : ∀ M' : zM, (∀ x, x ≠ 110 → x ≠ 111 → x ≠ 102 → M' x = M x) → (∀ j, j ≠ 2 → M' 102 j = M 102 j) → P' M') : zPP E mX11_reading mX12_reading [.inl p, .inl hr, .inl kk] M P' := by
  obtain ⟨-, -, -, -, ⟨p1, p2, -⟩, hR, -⟩ := hA
  have hR0 := hR
  obtain ⟨r1, r2, -⟩ := hR
  refine vcX11_reading _ _ _ ?_
  refine c_hasPost h1 (by rw [p1]; exact p2) ?_
  rw [p1]
  have ref : ∀ v, zR v → v = (if (0 ≤ p ∧ p < M 102 4) ∧ (0 ≤ hr ∧ hr ≤ 99) ∧ (0 ≤ kk ∧ kk ≤ 99) then knV M kk (100 * p + hr).toNat else -20000) → zP E mX12_reading [.inr (.inr 102), .inl p, .inl hr, .inl kk] M (fun r2 M2 => (zR v ∧ zR r2) ∧ v = r2 ∧ P' M2) := by
    intro v hv hv2
    refine r_reading h1 h2 h3 p2 r2 ?_
    by_cases g : (0 ≤ p ∧ p < M 102 4) ∧ (0 ≤ hr ∧ hr ≤ 99) ∧ (0 ≤ kk ∧ kk ≤ 99)
    · rw [if_pos g] at hv2 ⊢
      intro M' f
      show (zR v ∧ zR (knV M kk (100 * p + hr).toNat)) ∧ v = knV M kk (100 * p + hr).toNat ∧ P' M'
      rw [← hv2]
      exact q_end hv (h M' (fun x x1 x2 x3 => by rw [f x x1 x2, zup_ne _ _ _ x3]) (fun j hj => by rw [f _ (by decide) (by decide)]; simp [zup_r, hj]))
    · rw [if_neg g] at hv2 ⊢
      rw [hv2]
      exact q_end (zRd rfl) (h _ (fun x x1 x2 x3 => by rw [zup_ne _ _ _ x3]) (fun j hj => by simp [zup_r, hj]))
  by_cases g1 : 0 ≤ p ∧ p < M 102 4
  · rw [if_pos g1]
    refine ⟨zRd rfl, fun q => absurd q (by decide), fun _ => ?_⟩
    refine c_isHour h2 ?_
    by_cases g2 : 0 ≤ hr ∧ hr ≤ 99
    · rw [if_pos g2]
      refine ⟨zRd rfl, fun q => absurd q (by decide), fun _ => ?_⟩
      refine c_isHour h3 ?_
      by_cases g3 : 0 ≤ kk ∧ kk ≤ 99
      · rw [if_pos g3]
        refine ⟨zRd rfl, fun _ => ?_, fun q => absurd q (by decide)⟩
        refine c_known hR0 h3 (by omega) g2 (ref _ ?_ ?_)
        · have := knV_r r2 kk (100 * p + hr).toNat
          unfold zR
          omega
        · rw [if_pos ⟨g1, g2, g3⟩]
      · rw [if_neg g3]
        exact ⟨zRd rfl, fun q => absurd rfl q, fun _ => ref _ (zRd rfl) (by rw [if_neg (fun q => g3 q.2.2)])⟩
    · rw [if_neg g2]
      exact ⟨zRd rfl, fun _ => ref _ (zRd rfl) (by rw [if_neg (fun q => g2 q.2.1)]), fun q => absurd rfl q⟩
  · rw [if_neg g1]
    exact ⟨zRd rfl, fun _ => ref _ (zRd rfl) (by rw [if_neg (fun q => g1 q.1)]), fun q => absurd rfl q⟩
