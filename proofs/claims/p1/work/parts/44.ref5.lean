/-! the reference: loops (know, reading, land, candidate) -/
/-- what is known in hour k: the last reading told of each place -/
def kn (M : zM) (k : Int) : Nat → Nat → Int × Int
  | 0, _ => (0, 0)
  | n + 1, at_ => if M 108 n ≤ k ∧ 100 * M 105 n + M 106 n = at_ then (1 - M 109 n, M 107 n) else kn M k n at_
/-- the readings are as they may be -/
def rdOk (M : zM) : Prop := (0 ≤ M 102 6 ∧ M 102 6 ≤ 400) ∧ ∀ i : Nat, (0 ≤ M 105 i ∧ M 105 i ≤ 7) ∧ (0 ≤ M 106 i ∧ M 106 i ≤ 99) ∧ (-9999 ≤ M 107 i ∧ M 107 i ≤ 9999) ∧ (0 ≤ M 108 i ∧ M 108 i ≤ 99) ∧ (M 109 i = 0 ∨ M 109 i = 1)
theorem r_know {E : zE} {M : zM} {Q : Int → zM → Prop} {k : Int} (hk : zR k) (ho : rdOk M)
    (h : ∀ M', (∀ x, x ≠ 110 → x ≠ 111 → M' x = M x) → (∀ i : Nat, i < 800 → M' 110 i = (kn M k (M 102 6).toNat i).1) → (∀ i : Nat, i < 800 → M' 110 i = 1 → M' 111 i = (kn M k (M 102 6).toNat i).2) → Q 0 M') : zP E mX12_know [.inr (.inr 102), .inl k] M Q := by
  refine vcX12_know k
    (fun n l1 l2 M' => l1 = k ∧ 0 ≤ l2 ∧ l2 ≤ 800 ∧ n = 2000 - l2.toNat ∧ (∀ x, x ≠ 110 → x ≠ 111 → M' x = M x) ∧ (∀ i : Nat, i < l2.toNat → M' 110 i = 0))
    (fun n l1 l2 M' => l1 = k ∧ 0 ≤ l2 ∧ l2 ≤ M 102 6 ∧ n = 500 - l2.toNat ∧ (∀ x, x ≠ 110 → x ≠ 111 → M' x = M x) ∧ (∀ i : Nat, i < 800 → M' 110 i = (kn M k l2.toNat i).1) ∧ (∀ i : Nat, i < 800 → M' 110 i = 1 → M' 111 i = (kn M k l2.toNat i).2))
    ⟨2000, rfl, by omega, by omega, rfl, fun _ _ _ => rfl, fun i hi => by simp at hi⟩ ?_ ?_
  · rintro n l1 l2 M' ⟨rfl, a1, a2, rfl, a3, a4⟩
    refine ⟨by grind [zR], fun hc => ?_, fun hc => ?_⟩
    · refine ⟨500, by omega, rfl, by omega, ho.1.1, rfl, a3, fun i hi => ?_, fun i hi h1 => ?_⟩
      · exact a4 i (by omega)
      · rw [a4 i (by omega)] at h1
        cases h1
    · refine ⟨⟨a1, hc⟩, ?_⟩
      rintro M1 rfl
      refine ⟨_, ?_, rfl, by omega, by omega, rfl, fun x h1 h2 => ?_, fun i hi => ?_⟩
      · omega
      · rw [zup_ne _ _ _ h1]
        exact a3 x h1 h2
      · rw [zup_r]
        simp
        intro hne
        exact a4 i (by omega)
  · rintro n l1 l2 M' ⟨rfl, a1, a2, rfl, a3, a4, a5⟩
    have t1 : M' 102 = M 102 := a3 _ (by decide) (by decide)
    have t2 : M' 108 = M 108 := a3 _ (by decide) (by decide)
    have t3 : M' 105 = M 105 := a3 _ (by decide) (by decide)
    have t4 : M' 106 = M 106 := a3 _ (by decide) (by decide)
    have t5 : M' 109 = M 109 := a3 _ (by decide) (by decide)
    have t6 : M' 107 = M 107 := a3 _ (by decide) (by decide)
    obtain ⟨o1, o2⟩ := ho
    have o3 := o2 l2.toNat
    rw [t1, t2, t3, t4, t5]
    refine ⟨by grind [zR], fun hc => ?_, fun hc => ⟨by omega, by grind [zR], fun hd => ?_, fun hd => ?_⟩⟩
    · have he : l2 = M 102 6 := by omega
      subst he
      exact h M' a3 a4 a5
    · have hs : (l2 + 1).toNat = l2.toNat + 1 := by omega
      refine ⟨by omega, by omega, by omega, by grind [zR], fun hg => ⟨by omega, ?_⟩, fun hg => ⟨by omega, ?_⟩⟩
      · rintro M2 rfl
        refine ⟨by omega, by omega, ?_⟩
        rintro M3 rfl
        refine ⟨_, ?_, rfl, by omega, by omega, rfl, fun x h1 h2 => ?_, fun i hi => ?_, fun i hi => ?_⟩
        · omega
        · rw [zup_ne _ _ _ h2, zup_ne _ _ _ h1]
          exact a3 x h1 h2
        · rw [hs, kn]
          simp [zup_r]
          have := a4 i hi
          grind
        · rw [hs, kn]
          simp [zup_r]
          have := a4 i hi
          have := a5 i hi
          grind
      · rintro M2 rfl
        refine ⟨by omega, by omega, ?_⟩
        rintro M3 rfl
        refine ⟨_, ?_, rfl, by omega, by omega, rfl, fun x h1 h2 => ?_, fun i hi => ?_, fun i hi => ?_⟩
        · omega
        · rw [zup_ne _ _ _ h2, zup_ne _ _ _ h1]
          exact a3 x h1 h2
        · rw [hs, kn]
          simp [zup_r]
          have := a4 i hi
          grind
        · rw [hs, kn]
          simp [zup_r, t6]
          have := a4 i hi
          have := a5 i hi
          grind
    · have hs : (l2 + 1).toNat = l2.toNat + 1 := by omega
      refine ⟨_, ?_, rfl, by omega, by omega, rfl, a3, fun i hi => ?_, fun i hi => ?_⟩
      · omega
      · rw [hs, kn, if_neg (by omega)]
        exact a4 i hi
      · rw [hs, kn, if_neg (by omega)]
        exact a5 i hi
