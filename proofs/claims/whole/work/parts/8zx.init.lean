/-! the relation at the beginning -/
def iArr (M : zM) : Prop := ∀ i : Nat, M 103 i = 0 ∧ M 3 i = 0 ∧ M 104 i = 0 ∧ M 21 i = 0 ∧ M 105 i = 0 ∧ M 106 i = 0 ∧ M 107 i = 0 ∧ M 108 i = 0 ∧ M 109 i = 0 ∧ M 24 i = 0 ∧ M 29 i = 0 ∧ M 128 i = 0 ∧ M 30 i = 0 ∧ M 129 i = 0 ∧ M 31 i = 0 ∧ M 130 i = 0 ∧ M 131 i = 0 ∧ M 32 i = 0 ∧ M 162 i = 0 ∧ M 45 i = 0 ∧ M 67 i = 0 ∧ M 163 i = 0 ∧ M 68 i = 0 ∧ M 164 i = 0
def iNum (M : zM) : Prop := M 2 1 = 0 ∧ M 102 1 = 0 ∧ M 1 1 = 0 ∧ M 102 15 = 0 ∧ M 1 2 = -1 ∧ M 102 16 = -1 ∧ M 0 0 = 0 ∧ M 102 3 = 0 ∧ M 20 1 = 0 ∧ M 102 4 = 0 ∧ M 20 6 = 0 ∧ M 102 6 = 0 ∧ M 28 0 = 4 ∧ M 102 51 = 4 ∧ M 28 1 = 16 ∧ M 102 52 = 4 ∧ M 28 5 = 0 ∧ M 102 57 = 0 ∧ M 28 7 = 0 ∧ M 102 96 = 0 ∧ M 0 11 = 0 ∧ M 102 58 = 0 ∧ M 44 6 = 0 ∧ M 102 69 = 0 ∧ M 44 13 = 0 ∧ M 102 76 = 0 ∧ M 0 6 = 0 ∧ M 0 7 = 0 ∧ M 102 32 = 0
def iBks (M : zM) : Prop := (M 0 2 = 6 ∧ M 0 3 = 13) ∧ M 6 8 = 0 ∧ M 6 10 = 0 ∧ M 6 9 = 0 ∧ M 102 34 = 0 ∧ M 102 37 = 0
def iWld (M : zM) : Prop := ∀ w : Nat, w < 3 → M (wid w) 0 = M 132 w ∧ M (wid w) 1 = M 133 w ∧ M (wid w) 2 = M 134 w ∧ M (wid w) 3 = M 135 w ∧ M (wid w) 4 = M 136 w
def iTal (M : zM) : Prop := ∀ j : Nat, j < 9 → M 26 j = 0
def iPln (M : zM) : Prop := ∀ m : Nat, m < 3 → M (plid m) 0 = 0
theorem REL_i {M : zM} (in_fix : zFix M) (in_arr : iArr M) (in_num : iNum M) (in_bks : iBks M) (in_wld : iWld M) (in_late : Zl M) (in_tally : iTal M) (in_wds : rWds M) (in_pln : iPln M) : REL 0 M := by
  obtain ⟨n1, n2, n3, n4, n5, n6, n7, n8, n9, n10, n11, n12, n13, n14, n15, n16, n17, n18, n19, n20, n21, n22, n23, n24, n25, n26, n27, n28, n29⟩ := in_num
  obtain ⟨⟨b1, b2⟩, b3, b4, b5, b6, b7⟩ := in_bks
  refine ⟨⟨in_fix, ⟨by rw [n1, n2], by omega, fun i hi => by omega, fun i => ?_, fun i => ?_⟩, ⟨by rw [n3, n4], by rw [n5, n6], by omega, by omega⟩, ⟨by rw [n7, n8], by omega⟩, ⟨by rw [n9, n10], by omega, fun i => ?_, fun i => ?_⟩, ⟨by rw [n11, n12], ⟨by omega, fun i => ?_⟩, fun i => ?_, fun i hi => by omega, fun i hi => by omega, fun j hj => ?_⟩, ⟨by rw [n13, n14], by rw [n15, n14, n16]; rfl, by omega, by omega, fun i => ?_, fun i => ?_, fun i => ?_, fun i => ?_, fun i => ?_, fun i => ?_⟩, ⟨by rw [n17, n18], by omega, by rw [n19, n20], by omega, fun i => ?_, fun i => ?_⟩, ⟨by rw [n21, n22], by omega, in_wld, fun w hw => by omega⟩, ⟨by rw [n23, n24], by omega, fun p hp => by omega, fun p => ?_⟩, ⟨by rw [n25, n26], by omega, fun p hp => by omega⟩, ⟨fun i => ?_, fun i => ?_, fun i => ?_, fun i => ?_⟩, ⟨Or.inl ⟨b1, b2⟩, ?_, ?_, ?_, by omega, by omega, by omega⟩, ⟨by omega, Or.inl n28⟩⟩, ⟨⟨⟨fun j j1 j2 => ?_, fun l hl => by omega⟩, fun i hi => by omega, fun q => by omega⟩, fun w hw => by omega, fun w hw => by omega⟩, fun m hm => ?_, fun i hi => by omega, in_wds⟩
  · rw [(in_arr i).1]; omega
  · rw [(in_arr i).2.1]; omega
  · rw [(in_arr i).2.2.1, (in_arr i).2.2.2.1]
  · rw [(in_arr i).2.2.1]; omega
  · obtain ⟨-, -, -, -, a5, a6, a7, a8, a9, -⟩ := in_arr i
    rw [a5, a6, a7, a8, a9]
    omega
  · obtain ⟨-, -, -, -, -, -, -, a8, -, a10, -⟩ := in_arr i
    rw [a8, a10]
  · rw [in_late j hj, n12]
    rfl
  · obtain ⟨-, -, -, -, -, -, -, -, -, -, a11, a12, -⟩ := in_arr i
    rw [a11, a12]
  · obtain ⟨-, -, -, -, -, -, -, -, -, -, -, -, a13, a14, -⟩ := in_arr i
    rw [a13, a14]
  · obtain ⟨-, -, -, -, -, -, -, -, -, -, -, -, -, -, a15, a16, a17, -⟩ := in_arr i
    rw [a15, a16, a17]
    rfl
  · obtain ⟨-, -, -, -, -, -, -, -, -, -, -, -, -, -, a15, a16, a17, -⟩ := in_arr i
    rw [a16, a17]
    omega
  · obtain ⟨-, -, -, -, -, -, -, -, -, -, a11, a12, -⟩ := in_arr i
    rw [a12]
    omega
  · obtain ⟨-, -, -, -, -, -, -, -, -, -, -, -, a13, a14, -⟩ := in_arr i
    rw [a14]
    omega
  · obtain ⟨-, -, -, -, -, -, -, -, -, -, -, -, -, -, -, -, -, a18, a19, -⟩ := in_arr i
    rw [a18, a19]
  · obtain ⟨-, -, -, -, -, -, -, -, -, -, -, -, -, -, -, -, -, a18, a19, -⟩ := in_arr i
    rw [a19]
    omega
  · obtain ⟨-, -, -, -, -, -, -, -, -, -, -, -, -, -, -, -, -, -, -, a20, -⟩ := in_arr p
    rw [a20]
    exact zRd rfl
  · obtain ⟨-, -, -, -, -, -, -, -, -, -, -, -, -, -, -, -, -, -, -, -, a21, a22, a23, a24⟩ := in_arr i
    rw [a21, a22]
  · obtain ⟨-, -, -, -, -, -, -, -, -, -, -, -, -, -, -, -, -, -, -, -, a21, a22, a23, a24⟩ := in_arr i
    rw [a23, a24]
  · obtain ⟨-, -, -, -, -, -, -, -, -, -, -, -, -, -, -, -, -, -, -, -, a21, a22, a23, a24⟩ := in_arr i
    rw [a22]
    omega
  · obtain ⟨-, -, -, -, -, -, -, -, -, -, -, -, -, -, -, -, -, -, -, -, a21, a22, a23, a24⟩ := in_arr i
    rw [a24]
    omega
  · rw [b1, n29]
    exact b3
  · rw [b1, b6]
    exact b4
  · rw [b1, b7]
    exact b5
  · rw [in_tally j (by omega)]
    exact zRd rfl
  · rw [in_pln m hm]
    exact ⟨Or.inl rfl, fun q => absurd q (by decide)⟩
theorem in_arr : iArr nM0 := fun i => ⟨zst_nM0 _ rfl i, zst_nM0 _ rfl i, zst_nM0 _ rfl i, zst_nM0 _ rfl i, zst_nM0 _ rfl i, zst_nM0 _ rfl i, zst_nM0 _ rfl i, zst_nM0 _ rfl i, zst_nM0 _ rfl i, zst_nM0 _ rfl i, zst_nM0 _ rfl i, zst_nM0 _ rfl i, zst_nM0 _ rfl i, zst_nM0 _ rfl i, zst_nM0 _ rfl i, zst_nM0 _ rfl i, zst_nM0 _ rfl i, zst_nM0 _ rfl i, zst_nM0 _ rfl i, zst_nM0 _ rfl i, zst_nM0 _ rfl i, zst_nM0 _ rfl i, zst_nM0 _ rfl i, zst_nM0 _ rfl i⟩
theorem in_num : iNum nM0 := by unfold iNum; decide +kernel
theorem in_bks : iBks nM0 := by unfold iBks; decide +kernel
theorem in_fix : zFix nM0 := by unfold zFix; decide +kernel
theorem in_wld : iWld nM0 := by unfold iWld; decide +kernel
theorem in_tally : iTal nM0 := by unfold iTal; decide +kernel
theorem in_wds : rWds nM0 := by unfold rWds; decide +kernel
theorem in_pln : iPln nM0 := by unfold iPln; decide +kernel
theorem REL_0 : REL 0 nM0 := REL_i in_fix in_arr in_num in_bks in_wld zlt_nM0 in_tally in_wds in_pln
