/-! feed -/
theorem q_byte (w : Int) {s : Int} (hs : s = 0 ∨ s = 8 ∨ s = 16 ∨ s = 24) : zand (zushr w s) 255 = zand (zshr w s) 255 := by
  unfold zand zushr zshr
  rw [Int32.ofInt_toInt, Int32.ofInt_toInt]
  congr 1
  generalize Int32.ofInt w = a
  apply Int32.toBitVec_inj.1
  rcases hs with rfl | rfl | rfl | rfl
  · have e1 : (Int32.ofInt 0).toUInt32 &&& Int32.toUInt32 31 = 0 := by decide
    have e2 : Int32.ofInt 0 &&& 31 = 0 := by decide
    rw [e1, e2, Int32.toBitVec_and, Int32.toBitVec_and, Int32.toBitVec_shiftRight]
    exact (q_bits a.toBitVec 0 (by decide)).symm
  · have e1 : (Int32.ofInt 8).toUInt32 &&& Int32.toUInt32 31 = 8 := by decide
    have e2 : Int32.ofInt 8 &&& 31 = 8 := by decide
    rw [e1, e2, Int32.toBitVec_and, Int32.toBitVec_and, Int32.toBitVec_shiftRight]
    exact (q_bits a.toBitVec 8 (by decide)).symm
  · have e1 : (Int32.ofInt 16).toUInt32 &&& Int32.toUInt32 31 = 16 := by decide
    have e2 : Int32.ofInt 16 &&& 31 = 16 := by decide
    rw [e1, e2, Int32.toBitVec_and, Int32.toBitVec_and, Int32.toBitVec_shiftRight]
    exact (q_bits a.toBitVec 16 (by decide)).symm
  · have e1 : (Int32.ofInt 24).toUInt32 &&& Int32.toUInt32 31 = 24 := by decide
    have e2 : Int32.ofInt 24 &&& 31 = 24 := by decide
    rw [e1, e2, Int32.toBitVec_and, Int32.toBitVec_and, Int32.toBitVec_shiftRight]
    exact (q_bits a.toBitVec 24 (by decide)).symm
theorem zand_r (x : Int) : 0 ≤ zand x 255 ∧ zand x 255 ≤ 255 := by
  unfold zand
  rw [← Int32.toInt_toBitVec, Int32.toBitVec_and]
  have e : (Int32.ofInt 255).toBitVec = 255#32 := by decide
  rw [e]
  generalize (Int32.ofInt x).toBitVec = a
  have h : (a &&& 255#32).toNat ≤ 255 := by
    rw [BitVec.toNat_and]
    exact Nat.and_le_right
  rw [BitVec.toInt_eq_toNat_of_lt (by omega)]
  omega
theorem fb_eq {a b c d e w k : Int} (j : Int) (hj : 0 ≤ j ∧ j ≤ 4) (hk : 4 * j ≤ k ∧ k < 4 * j + 4) (hw : w = if k < 4 then a else if k < 8 then b else if k < 12 then c else if k < 16 then d else e) : zand (zushr w (24 - 8 * (k - 4 * j))) 255 = fbyte a b c d e k := by
  rw [q_byte w (by omega)]
  unfold fbyte
  rw [← hw, Int.tmod_eq_emod_of_nonneg (by omega)]
  have : k % 4 = k - 4 * j := by omega
  rw [this]
theorem q_feed {E : zE} {k : Nat} {M : zM} {P' : zM → Prop} {a b c d e : Int} (hA : RelA k M)
    (h : if M 102 1 + 20 ≤ 500 then ∀ M', (∀ x, x ≠ 2 → x ≠ 3 → x ≠ 102 → x ≠ 103 → M' x = M x) → (∀ j, j ≠ 1 → M' 2 j = M 2 j) → (∀ j, j ≠ 2 → j ≠ 1 → M' 102 j = M 102 j) → rTape M' → P' M' else P' (zup M 102 2 0)) : zPP E mX11_feed mX12_feed [.inl a, .inl b, .inl c, .inl d, .inl e] M P' := by
  obtain ⟨hf, ⟨t1, t2, t3, t4, t5⟩, -⟩ := hA
  refine vcX11_feed a b c d e (vcX9_hasSpace _ ?_)
  rw [t1]
  refine ⟨by unfold zR; omega, fun q => ⟨zRd rfl, fun q2 => absurd rfl q2, fun _ => ?_⟩, fun q => ⟨zRd rfl, fun _ => ?_, fun q2 => absurd q2 (by decide)⟩⟩
  · refine r_feed t2 ?_
    rw [if_neg (by omega)]
    rw [if_neg (by omega)] at h
    exact q_end (zRd rfl) h
  · rw [if_pos q] at h
    refine c_append (by rw [t1]; omega) (fun M1 f1 s1 b1 => ?_)
    rw [t1] at s1 b1
    have z1 : M1 2 1 = M 102 1 + 4 := by rw [s1, if_pos rfl]
    refine c_append (by rw [z1]; omega) (fun M2 f2 s2 b2 => ?_)
    rw [z1] at s2 b2
    have z2 : M2 2 1 = M 102 1 + 8 := by rw [s2, if_pos rfl]; omega
    refine c_append (by rw [z2]; omega) (fun M3 f3 s3 b3 => ?_)
    rw [z2] at s3 b3
    have z3 : M3 2 1 = M 102 1 + 12 := by rw [s3, if_pos rfl]; omega
    refine c_append (by rw [z3]; omega) (fun M4 f4 s4 b4 => ?_)
    rw [z3] at s4 b4
    have z4 : M4 2 1 = M 102 1 + 16 := by rw [s4, if_pos rfl]; omega
    refine c_append (by rw [z4]; omega) (fun M5 f5 s5 b5 => ?_)
    rw [z4] at s5 b5
    have z5 : M5 2 1 = M 102 1 + 20 := by rw [s5, if_pos rfl]; omega
    have fr : ∀ x, x ≠ 2 → x ≠ 3 → M5 x = M x := fun x x1 x2 => by rw [f5 x x1 x2, f4 x x1 x2, f3 x x1 x2, f2 x x1 x2, f1 x x1 x2]
    have e0 : M5 102 = M 102 := fr _ (by decide) (by decide)
    have e1 : M5 103 = M 103 := fr _ (by decide) (by decide)
    have sl : ∀ j, j ≠ 1 → M5 2 j = M 2 j := fun j hj => by rw [s5, if_neg hj, s4, if_neg hj, s3, if_neg hj, s2, if_neg hj, s1, if_neg hj]
    have byt : ∀ i : Nat, M5 3 i = if (M 102 1).toNat ≤ i ∧ i < (M 102 1).toNat + 20 then fbyte a b c d e (i - M 102 1) else M 3 i := fun i => by
      by_cases k5 : (M 102 1 + 16).toNat ≤ i ∧ i < (M 102 1 + 16).toNat + 4
      · rw [b5, if_pos k5, if_pos (by omega), ← fb_eq (w := e) 4 (by omega) (by omega) (by rw [if_neg (by omega), if_neg (by omega), if_neg (by omega), if_neg (by omega)])]
        congr 2
        omega
      · rw [b5, if_neg k5]
        by_cases k4 : (M 102 1 + 12).toNat ≤ i ∧ i < (M 102 1 + 12).toNat + 4
        · rw [b4, if_pos k4, if_pos (by omega), ← fb_eq (w := d) 3 (by omega) (by omega) (by rw [if_neg (by omega), if_neg (by omega), if_neg (by omega), if_pos (by omega)])]
          congr 2
          omega
        · rw [b4, if_neg k4]
          by_cases k3 : (M 102 1 + 8).toNat ≤ i ∧ i < (M 102 1 + 8).toNat + 4
          · rw [b3, if_pos k3, if_pos (by omega), ← fb_eq (w := c) 2 (by omega) (by omega) (by rw [if_neg (by omega), if_neg (by omega), if_pos (by omega)])]
            congr 2
            omega
          · rw [b3, if_neg k3]
            by_cases k2 : (M 102 1 + 4).toNat ≤ i ∧ i < (M 102 1 + 4).toNat + 4
            · rw [b2, if_pos k2, if_pos (by omega), ← fb_eq (w := b) 1 (by omega) (by omega) (by rw [if_neg (by omega), if_pos (by omega)])]
              congr 2
              omega
            · rw [b2, if_neg k2]
              by_cases k1 : (M 102 1).toNat ≤ i ∧ i < (M 102 1).toNat + 4
              · rw [b1, if_pos k1, if_pos (by omega), ← fb_eq (w := a) 0 (by omega) (by omega) (by rw [if_pos (by omega)])]
                congr 2
                omega
              · rw [b1, if_neg k1, if_neg (by omega)]
    have fbr : ∀ k, 0 ≤ fbyte a b c d e k ∧ fbyte a b c d e k ≤ 255 := fun k => zand_r _
    refine r_feed (by rw [e0]; exact t2) ?_
    rw [e0, if_pos q]
    intro M' g1 g2
    rw [z5]
    have g3 : M' 2 = M5 2 := by rw [g1 _ (by decide), zup_ne _ _ _ (by decide), zup_ne _ _ _ (by decide)]
    have g4 : M' 3 = M5 3 := by rw [g1 _ (by decide), zup_ne _ _ _ (by decide), zup_ne _ _ _ (by decide)]
    have g5 : M' 102 1 = M 102 1 + 20 := by rw [g1 _ (by decide)]; simp [zup_r]
    refine q_end (by unfold zR; omega) (h M' (fun x x1 x2 x3 x4 => ?_) (fun j hj => by rw [g3]; exact sl j hj) (fun j j1 j2 => ?_) ⟨?_, ?_, ?_, ?_, ?_⟩)
    · rw [g1 x x4, zup_ne _ _ _ x3, zup_ne _ _ _ x3, fr x x1 x2]
    · rw [g1 _ (by decide), ← e0]
      simp [zup_r, j1, j2]
    · rw [g3, g5, z5]
    · rw [g5]; omega
    · intro i hi
      rw [g5] at hi
      rw [g4, byt, g2, e1]
      by_cases k1 : (M 102 1).toNat ≤ i ∧ i < (M 102 1).toNat + 20
      · rw [if_pos k1, if_pos k1]
      · rw [if_neg k1, if_neg k1]
        exact t3 i (by omega)
    · intro i
      rw [g2, e1]
      split
      · exact fbr _
      · exact t4 i
    · intro i
      rw [g4, byt]
      split
      · exact fbr _
      · exact t5 i
