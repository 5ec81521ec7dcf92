/-! String.length and charAt of the words -/
theorem dJ0_coder_7d493_0 : decode cJ0_coder_7d493 0 = .ok (.getstatic 38, 3) := by decide +kernel
theorem dJ0_coder_7d493_3 : decode cJ0_coder_7d493 3 = .ok (.ifCond .eq 10, 3) := by decide +kernel
theorem dJ0_coder_7d493_6 : decode cJ0_coder_7d493 6 = .ok (.aload_n 0, 1) := by decide +kernel
theorem dJ0_coder_7d493_7 : decode cJ0_coder_7d493 7 = .ok (.getfield 15, 3) := by decide +kernel
theorem dJ0_coder_7d493_10 : decode cJ0_coder_7d493 10 = .ok (.goto 4, 3) := by decide +kernel
theorem dJ0_coder_7d493_13 : decode cJ0_coder_7d493 13 = .ok (.iconst 1, 1) := by decide +kernel
theorem dJ0_coder_7d493_14 : decode cJ0_coder_7d493 14 = .ok (.ireturn, 1) := by decide +kernel
abbrev mJ0_coder_7d493 : zD := (yJ0_coder_7d493, cJ0_coder_7d493, 1, (some .byte), RJ0, { frames := 0, cells := 0, slots := 0, locals := 0 }, 0, 0)
theorem dJ0_length_8abf5_0 : decode cJ0_length_8abf5 0 = .ok (.aload_n 0, 1) := by decide +kernel
theorem dJ0_length_8abf5_1 : decode cJ0_length_8abf5 1 = .ok (.getfield 9, 3) := by decide +kernel
theorem dJ0_length_8abf5_4 : decode cJ0_length_8abf5 4 = .ok (.arraylength, 1) := by decide +kernel
theorem dJ0_length_8abf5_5 : decode cJ0_length_8abf5 5 = .ok (.aload_n 0, 1) := by decide +kernel
theorem dJ0_length_8abf5_6 : decode cJ0_length_8abf5 6 = .ok (.invokevirtual 335, 3) := by decide +kernel
theorem dJ0_length_8abf5_9 : decode cJ0_length_8abf5 9 = .ok (.ishr, 1) := by decide +kernel
theorem dJ0_length_8abf5_10 : decode cJ0_length_8abf5 10 = .ok (.ireturn, 1) := by decide +kernel
abbrev mJ0_length_8abf5 : zD := (yJ0_length_8abf5, cJ0_length_8abf5, 1, (some .int), RJ0, { frames := 1, cells := 0, slots := 0, locals := 20 }, 0, 0)
theorem dJ0_isLatin1_aae02_0 : decode cJ0_isLatin1_aae02 0 = .ok (.getstatic 38, 3) := by decide +kernel
theorem dJ0_isLatin1_aae02_3 : decode cJ0_isLatin1_aae02 3 = .ok (.ifCond .eq 14, 3) := by decide +kernel
theorem dJ0_isLatin1_aae02_6 : decode cJ0_isLatin1_aae02 6 = .ok (.aload_n 0, 1) := by decide +kernel
theorem dJ0_isLatin1_aae02_7 : decode cJ0_isLatin1_aae02 7 = .ok (.getfield 15, 3) := by decide +kernel
theorem dJ0_isLatin1_aae02_10 : decode cJ0_isLatin1_aae02 10 = .ok (.ifCond .ne 7, 3) := by decide +kernel
theorem dJ0_isLatin1_aae02_13 : decode cJ0_isLatin1_aae02 13 = .ok (.iconst 1, 1) := by decide +kernel
theorem dJ0_isLatin1_aae02_14 : decode cJ0_isLatin1_aae02 14 = .ok (.goto 4, 3) := by decide +kernel
theorem dJ0_isLatin1_aae02_17 : decode cJ0_isLatin1_aae02 17 = .ok (.iconst 0, 1) := by decide +kernel
theorem dJ0_isLatin1_aae02_18 : decode cJ0_isLatin1_aae02 18 = .ok (.ireturn, 1) := by decide +kernel
abbrev mJ0_isLatin1_aae02 : zD := (yJ0_isLatin1_aae02, cJ0_isLatin1_aae02, 1, (some .boolean), RJ0, { frames := 0, cells := 0, slots := 0, locals := 0 }, 0, 0)
theorem dJ0_charAt_5068e_0 : decode cJ0_charAt_5068e 0 = .ok (.aload_n 0, 1) := by decide +kernel
theorem dJ0_charAt_5068e_1 : decode cJ0_charAt_5068e 1 = .ok (.invokevirtual 492, 3) := by decide +kernel
theorem dJ0_charAt_5068e_4 : decode cJ0_charAt_5068e 4 = .ok (.ifCond .eq 12, 3) := by decide +kernel
theorem dJ0_charAt_5068e_7 : decode cJ0_charAt_5068e 7 = .ok (.aload_n 0, 1) := by decide +kernel
theorem dJ0_charAt_5068e_8 : decode cJ0_charAt_5068e 8 = .ok (.getfield 9, 3) := by decide +kernel
theorem dJ0_charAt_5068e_11 : decode cJ0_charAt_5068e 11 = .ok (.iload_n 1, 1) := by decide +kernel
theorem dJ0_charAt_5068e_12 : decode cJ0_charAt_5068e 12 = .ok (.invokestatic 495, 3) := by decide +kernel
theorem dJ0_charAt_5068e_15 : decode cJ0_charAt_5068e 15 = .ok (.ireturn, 1) := by decide +kernel
theorem dJ0_charAt_5068e_16 : decode cJ0_charAt_5068e 16 = .ok (.aload_n 0, 1) := by decide +kernel
theorem dJ0_charAt_5068e_17 : decode cJ0_charAt_5068e 17 = .ok (.getfield 9, 3) := by decide +kernel
theorem dJ0_charAt_5068e_20 : decode cJ0_charAt_5068e 20 = .ok (.iload_n 1, 1) := by decide +kernel
theorem dJ0_charAt_5068e_21 : decode cJ0_charAt_5068e 21 = .ok (.invokestatic 498, 3) := by decide +kernel
theorem dJ0_charAt_5068e_24 : decode cJ0_charAt_5068e 24 = .ok (.ireturn, 1) := by decide +kernel
abbrev mJ0_charAt_5068e : zD := (yJ0_charAt_5068e, cJ0_charAt_5068e, 2, (some .char), RJ0, { frames := 3, cells := 0, slots := 0, locals := 64 }, 0, 0)
theorem dJ0_checkIndex_df160_0 : decode cJ0_checkIndex_df160 0 = .ok (.iload_n 0, 1) := by decide +kernel
theorem dJ0_checkIndex_df160_1 : decode cJ0_checkIndex_df160 1 = .ok (.iload_n 1, 1) := by decide +kernel
theorem dJ0_checkIndex_df160_2 : decode cJ0_checkIndex_df160 2 = .ok (.getstatic 1053, 3) := by decide +kernel
theorem dJ0_checkIndex_df160_5 : decode cJ0_checkIndex_df160 5 = .ok (.invokestatic 1059, 3) := by decide +kernel
theorem dJ0_checkIndex_df160_8 : decode cJ0_checkIndex_df160 8 = .ok (.pop, 1) := by decide +kernel
theorem dJ0_checkIndex_df160_9 : decode cJ0_checkIndex_df160 9 = .ok (.return_, 1) := by decide +kernel
abbrev mJ0_checkIndex_df160 : zD := (yJ0_checkIndex_df160, cJ0_checkIndex_df160, 2, none, RJ0, { frames := 1, cells := 0, slots := 0, locals := 22 }, 0, 0)
theorem dJ1_charAt_3b067_0 : decode cJ1_charAt_3b067 0 = .ok (.iload_n 1, 1) := by decide +kernel
theorem dJ1_charAt_3b067_1 : decode cJ1_charAt_3b067 1 = .ok (.aload_n 0, 1) := by decide +kernel
theorem dJ1_charAt_3b067_2 : decode cJ1_charAt_3b067 2 = .ok (.arraylength, 1) := by decide +kernel
theorem dJ1_charAt_3b067_3 : decode cJ1_charAt_3b067 3 = .ok (.invokestatic 9, 3) := by decide +kernel
theorem dJ1_charAt_3b067_6 : decode cJ1_charAt_3b067 6 = .ok (.aload_n 0, 1) := by decide +kernel
theorem dJ1_charAt_3b067_7 : decode cJ1_charAt_3b067 7 = .ok (.iload_n 1, 1) := by decide +kernel
theorem dJ1_charAt_3b067_8 : decode cJ1_charAt_3b067 8 = .ok (.baload, 1) := by decide +kernel
theorem dJ1_charAt_3b067_9 : decode cJ1_charAt_3b067 9 = .ok (.sipush 255, 3) := by decide +kernel
theorem dJ1_charAt_3b067_12 : decode cJ1_charAt_3b067 12 = .ok (.iand, 1) := by decide +kernel
theorem dJ1_charAt_3b067_13 : decode cJ1_charAt_3b067 13 = .ok (.i2c, 1) := by decide +kernel
theorem dJ1_charAt_3b067_14 : decode cJ1_charAt_3b067 14 = .ok (.ireturn, 1) := by decide +kernel
abbrev mJ1_charAt_3b067 : zD := (yJ1_charAt_3b067, cJ1_charAt_3b067, 2, (some .char), RJ1, { frames := 2, cells := 0, slots := 0, locals := 43 }, 0, 0)
theorem dJ3_checkIndex_8e157_0 : decode cJ3_checkIndex_8e157 0 = .ok (.iload_n 0, 1) := by decide +kernel
theorem dJ3_checkIndex_8e157_1 : decode cJ3_checkIndex_8e157 1 = .ok (.ifCond .lt 8, 3) := by decide +kernel
theorem dJ3_checkIndex_8e157_4 : decode cJ3_checkIndex_8e157 4 = .ok (.iload_n 0, 1) := by decide +kernel
theorem dJ3_checkIndex_8e157_5 : decode cJ3_checkIndex_8e157 5 = .ok (.iload_n 1, 1) := by decide +kernel
theorem dJ3_checkIndex_8e157_6 : decode cJ3_checkIndex_8e157 6 = .ok (.if_icmp .lt 10, 3) := by decide +kernel
theorem dJ3_checkIndex_8e157_9 : decode cJ3_checkIndex_8e157 9 = .ok (.aload_n 2, 1) := by decide +kernel
theorem dJ3_checkIndex_8e157_10 : decode cJ3_checkIndex_8e157 10 = .ok (.iload_n 0, 1) := by decide +kernel
theorem dJ3_checkIndex_8e157_11 : decode cJ3_checkIndex_8e157 11 = .ok (.iload_n 1, 1) := by decide +kernel
theorem dJ3_checkIndex_8e157_12 : decode cJ3_checkIndex_8e157 12 = .ok (.invokestatic 95, 3) := by decide +kernel
theorem dJ3_checkIndex_8e157_15 : decode cJ3_checkIndex_8e157 15 = .ok (.athrow, 1) := by decide +kernel
theorem dJ3_checkIndex_8e157_16 : decode cJ3_checkIndex_8e157 16 = .ok (.iload_n 0, 1) := by decide +kernel
theorem dJ3_checkIndex_8e157_17 : decode cJ3_checkIndex_8e157 17 = .ok (.ireturn, 1) := by decide +kernel
abbrev mJ3_checkIndex_8e157 : zD := (yJ3_checkIndex_8e157, cJ3_checkIndex_8e157, 3, (some .int), RJ3, { frames := 0, cells := 0, slots := 0, locals := 0 }, 0, 0)
section zj
variable {E : zE} {M : zM} {Q : Int → zM → Prop}
theorem s_coder (h : Q 0 M) : zP E mJ0_coder_7d493 [.inr (.inr (-200))] M Q := by
  refine zP_of (by decide +kernel) rfl (Nat.le_of_ble_eq_true rfl) ?_
  show zA E zNN (0, 0) mJ0_coder_7d493 0 [(0, .inr (.inr (-200)))] [] M (zQ Q)
  refine zr_gets1 (pc' := 3) dJ0_coder_7d493_0 rfl (zi 3 105 rfl rfl) ?_
  refine zr_if_eq (tgt := 13) (pc' := 6) dJ0_coder_7d493_3 rfl rfl (zRd rfl) (fun hc => absurd hc (by decide)) (fun _ => ?_)
  refine zr_aload_n (pc' := 7) (i := 0) dJ0_coder_7d493_6 rfl rfl rfl ?_
  refine zr_getC (pc' := 10) dJ0_coder_7d493_7 rfl (zi 9 108 rfl rfl) ?_
  refine zr_goto (pc' := 14) dJ0_coder_7d493_10 rfl ?_
  exact zr_ireturn dJ0_coder_7d493_14 rfl rfl rfl (Nat.le_refl _) (Nat.le_refl _) (And.intro rfl h)
theorem s_lat (h : Q 1 M) : zP E mJ0_isLatin1_aae02 [.inr (.inr (-200))] M Q := by
  refine zP_of (by decide +kernel) rfl (Nat.le_of_ble_eq_true rfl) ?_
  show zA E zNN (0, 0) mJ0_isLatin1_aae02 0 [(0, .inr (.inr (-200)))] [] M (zQ Q)
  refine zr_gets1 (pc' := 3) dJ0_isLatin1_aae02_0 rfl (zi 3 105 rfl rfl) ?_
  refine zr_if_eq (tgt := 17) (pc' := 6) dJ0_isLatin1_aae02_3 rfl rfl (zRd rfl) (fun hc => absurd hc (by decide)) (fun _ => ?_)
  refine zr_aload_n (pc' := 7) (i := 0) dJ0_isLatin1_aae02_6 rfl rfl rfl ?_
  refine zr_getC (pc' := 10) dJ0_isLatin1_aae02_7 rfl (zi 9 108 rfl rfl) ?_
  refine zr_if_ne (tgt := 17) (pc' := 13) dJ0_isLatin1_aae02_10 rfl rfl (zRd rfl) (fun hc => absurd rfl hc) (fun _ => ?_)
  refine zr_iconst (pc' := 14) dJ0_isLatin1_aae02_13 rfl ?_
  refine zr_goto (pc' := 18) dJ0_isLatin1_aae02_14 rfl ?_
  exact zr_ireturn dJ0_isLatin1_aae02_18 rfl rfl (Or.inr rfl) (Nat.le_refl _) (Nat.le_refl _) (And.intro rfl h)
theorem s_length (h : Q 77 M) : zP E mJ0_length_8abf5 [.inr (.inr (-200))] M Q := by
  refine zP_of (by decide +kernel) rfl (Nat.le_of_ble_eq_true rfl) ?_
  show zA E zNN (0, 0) mJ0_length_8abf5 0 [(0, .inr (.inr (-200)))] [] M (zQ Q)
  refine zr_aload_n (pc' := 1) (i := 0) dJ0_length_8abf5_0 rfl rfl rfl ?_
  refine zr_getV (pc' := 4) dJ0_length_8abf5_1 rfl (zi 9 107 rfl rfl) ?_
  refine zr_alenO (pc' := 5) dJ0_length_8abf5_4 rfl ?_
  refine zr_aload_n (pc' := 6) (i := 0) dJ0_length_8abf5_5 rfl rfl rfl ?_
  refine zr_callVO (d2 := mJ0_coder_7d493) (pc' := 9) (args := []) (st := [.inl 77]) (st' := fun r => [.inl r, .inl 77]) (Q' := zQ (fun r M' => r = 0 ∧ M' = M)) dJ0_length_8abf5_6 rfl ⟨rfl, (zi 3 101 rfl rfl), (zi 3 102 rfl rfl), (zi 3 103 rfl rfl), (zi 1 16 rfl rfl), (zi 3 104 rfl rfl), by decide, by decide, by decide +kernel⟩ ⟨rfl, rfl, by decide, by decide⟩ rfl rfl (Nat.le_of_ble_eq_true rfl) ⟨Nat.le_refl _, Nat.le_refl _⟩ (fun _ => rfl) (fun r N' M' h h2 => by rw [h.1] at h2; cases h2) (s_coder ⟨rfl, rfl⟩) ?_
  rintro r N' M' ⟨rfl, rfl, rfl⟩
  refine zr_ishr (pc' := 10) dJ0_length_8abf5_9 rfl ?_
  have e : zshr 77 0 = 77 := by decide +kernel
  rw [e]
  exact zr_ireturn dJ0_length_8abf5_10 rfl rfl trivial (Nat.le_refl _) (Nat.le_refl _) (And.intro rfl h)
theorem s_pchk {i n r : Int} (hi : 0 ≤ i ∧ i < n) (hn : zR n) (h : Q i M) : zP E mJ3_checkIndex_8e157 [.inl i, .inl n, .inr (.inr r)] M Q := by
  have hz : zR i := by unfold zR at *; omega
  refine zP_of (by decide +kernel) rfl (Nat.le_of_ble_eq_true rfl) ?_
  show zA E zNN (0, 0) mJ3_checkIndex_8e157 0 [(0, .inl i), (1, .inl n), (2, .inr (.inr r))] [] M (zQ Q)
  refine zr_iload_n (pc' := 1) (i := 0) dJ3_checkIndex_8e157_0 rfl rfl rfl ?_
  refine zr_if_lt (tgt := 9) (pc' := 4) dJ3_checkIndex_8e157_1 rfl rfl hz (fun hc => by omega) (fun _ => ?_)
  refine zr_iload_n (pc' := 5) (i := 0) dJ3_checkIndex_8e157_4 rfl rfl rfl ?_
  refine zr_iload_n (pc' := 6) (i := 1) dJ3_checkIndex_8e157_5 rfl rfl rfl ?_
  refine zr_icmp_lt (tgt := 16) (pc' := 9) dJ3_checkIndex_8e157_6 rfl rfl hz hn (fun _ => ?_) (fun hc => by omega)
  refine zr_iload_n (pc' := 17) (i := 0) dJ3_checkIndex_8e157_16 rfl rfl rfl ?_
  exact zr_ireturn dJ3_checkIndex_8e157_17 rfl rfl trivial (Nat.le_refl _) (Nat.le_refl _) (And.intro rfl h)
theorem s_chk {i n : Int} (hi : 0 ≤ i ∧ i < n) (hn : zR n) (h : Q 0 M) : zP E mJ0_checkIndex_df160 [.inl i, .inl n] M Q := by
  refine zP_of (by decide +kernel) rfl (Nat.le_of_ble_eq_true rfl) ?_
  show zA E zNN (0, 0) mJ0_checkIndex_df160 0 [(0, .inl i), (1, .inl n)] [] M (zQ Q)
  refine zr_iload_n (pc' := 1) (i := 0) dJ0_checkIndex_df160_0 rfl rfl rfl ?_
  refine zr_iload_n (pc' := 2) (i := 1) dJ0_checkIndex_df160_1 rfl rfl rfl ?_
  refine zr_getsQ (pc' := 5) dJ0_checkIndex_df160_2 rfl (zi 3 121 rfl rfl) (fun r _ => ?_)
  refine zn_callS (n := 3) (d2 := mJ3_checkIndex_8e157) (pc' := 8) (args := [.inl i, .inl n, .inr (.inr r)]) (st := []) (st' := fun r1 => [.inl r1]) dJ0_checkIndex_df160_5 rfl ⟨(zi 3 123 rfl rfl), (zi 3 124 rfl rfl), (zi 1 18 rfl rfl), (zi 3 125 rfl rfl), by decide, by decide, by decide +kernel⟩ ⟨rfl, rfl, by decide, by decide⟩ rfl rfl rfl (Nat.le_of_ble_eq_true rfl) (fun _ => rfl) (s_pchk (Q := fun r M' => M' = M) hi hn rfl) ?_
  rintro r1 M1 rfl
  refine zr_pop (pc' := 9) dJ0_checkIndex_df160_8 rfl rfl ?_
  exact zr_return (x := 0) dJ0_checkIndex_df160_9 rfl (Nat.le_refl _) (Nat.le_refl _) (And.intro rfl h)
theorem zWin_r : ∀ i : Nat, i < 77 → zand (zWin.getD i 0) 255 = zWin.getD i 0 ∧ 0 ≤ zWin.getD i 0 ∧ zWin.getD i 0 ≤ 127 := by decide +kernel
theorem s_lch {i : Int} (hi : 0 ≤ i ∧ i < 77) (h : Q (zWin.getD i.toNat 0) M) : zP E mJ1_charAt_3b067 [.inr (.inr (-201)), .inl i] M Q := by
  obtain ⟨e1, e2⟩ := zWin_r i.toNat (by omega)
  refine zP_of (by decide +kernel) rfl (Nat.le_of_ble_eq_true rfl) ?_
  show zA E zNN (0, 0) mJ1_charAt_3b067 0 [(0, .inr (.inr (-201))), (1, .inl i)] [] M (zQ Q)
  refine zr_iload_n (pc' := 1) (i := 1) dJ1_charAt_3b067_0 rfl rfl rfl ?_
  refine zr_aload_n (pc' := 2) (i := 0) dJ1_charAt_3b067_1 rfl rfl rfl ?_
  refine zr_alenO (pc' := 3) dJ1_charAt_3b067_2 rfl ?_
  refine zn_callS (n := 2) (d2 := mJ0_checkIndex_df160) (pc' := 6) (args := [.inl i, .inl 77]) (st := []) (st' := fun _ => []) dJ1_charAt_3b067_3 rfl ⟨(zi 3 118 rfl rfl), (zi 3 119 rfl rfl), (zi 1 16 rfl rfl), (zi 3 120 rfl rfl), by decide, by decide, by decide +kernel⟩ ⟨rfl, rfl, by decide, by decide⟩ rfl rfl rfl (Nat.le_of_ble_eq_true rfl) (fun _ => rfl) (s_chk (Q := fun r M' => M' = M) hi (zRd rfl) rfl) ?_
  rintro r1 M1 rfl
  refine zr_aload_n (pc' := 7) (i := 0) dJ1_charAt_3b067_6 rfl rfl rfl ?_
  refine zr_iload_n (pc' := 8) (i := 1) dJ1_charAt_3b067_7 rfl rfl rfl ?_
  refine zr_baldO (pc' := 9) dJ1_charAt_3b067_8 rfl hi.1 hi.2 ?_
  refine zr_sipush (pc' := 12) dJ1_charAt_3b067_9 rfl rfl ?_
  refine zr_iand (pc' := 13) dJ1_charAt_3b067_12 rfl ?_
  rw [e1]
  refine zr_i2c (pc' := 14) dJ1_charAt_3b067_13 rfl e2 ?_
  exact zr_ireturn dJ1_charAt_3b067_14 rfl rfl e2 (Nat.le_refl _) (Nat.le_refl _) (And.intro rfl h)
theorem s_charAt {i : Int} (hi : 0 ≤ i ∧ i < 77) (h : Q (zWin.getD i.toNat 0) M) : zP E mJ0_charAt_5068e [.inr (.inr (-200)), .inl i] M Q := by
  refine zP_of (by decide +kernel) rfl (Nat.le_of_ble_eq_true rfl) ?_
  show zA E zNN (0, 0) mJ0_charAt_5068e 0 [(0, .inr (.inr (-200))), (1, .inl i)] [] M (zQ Q)
  refine zr_aload_n (pc' := 1) (i := 0) dJ0_charAt_5068e_0 rfl rfl rfl ?_
  refine zr_callVO (d2 := mJ0_isLatin1_aae02) (pc' := 4) (args := []) (st := []) (st' := fun r => [.inl r]) (Q' := zQ (fun r M' => r = 1 ∧ M' = M)) dJ0_charAt_5068e_1 rfl ⟨rfl, (zi 3 111 rfl rfl), (zi 3 112 rfl rfl), (zi 3 113 rfl rfl), (zi 1 16 rfl rfl), (zi 3 114 rfl rfl), by decide, by decide, by decide +kernel⟩ ⟨rfl, rfl, by decide, by decide⟩ rfl rfl (Nat.le_of_ble_eq_true rfl) ⟨Nat.le_refl _, Nat.le_refl _⟩ (fun _ => rfl) (fun r N' M' h h2 => by rw [h.1] at h2; cases h2) (s_lat ⟨rfl, rfl⟩) ?_
  rintro r N' M' ⟨rfl, rfl, rfl⟩
  refine zr_if_eq (tgt := 16) (pc' := 7) dJ0_charAt_5068e_4 rfl rfl (zRd rfl) (fun hc => absurd hc (by decide)) (fun _ => ?_)
  refine zr_aload_n (pc' := 8) (i := 0) dJ0_charAt_5068e_7 rfl rfl rfl ?_
  refine zr_getV (pc' := 11) dJ0_charAt_5068e_8 rfl (zi 9 107 rfl rfl) ?_
  refine zr_iload_n (pc' := 12) (i := 1) dJ0_charAt_5068e_11 rfl rfl rfl ?_
  refine zn_callS (n := 2) (d2 := mJ1_charAt_3b067) (pc' := 15) (args := [.inr (.inr (-201)), .inl i]) (st := []) (st' := fun r1 => [.inl r1]) dJ0_charAt_5068e_12 rfl ⟨(zi 3 115 rfl rfl), (zi 3 116 rfl rfl), (zi 1 17 rfl rfl), (zi 3 117 rfl rfl), by decide, by decide, by decide +kernel⟩ ⟨rfl, rfl, by decide, by decide⟩ rfl rfl rfl (Nat.le_of_ble_eq_true rfl) (fun _ => rfl) (s_lch (Q := fun r M'' => r = zWin.getD i.toNat 0 ∧ M'' = M') hi ⟨rfl, rfl⟩) ?_
  rintro r1 M1 ⟨rfl, rfl⟩
  obtain ⟨-, e2⟩ := zWin_r i.toNat (by omega)
  exact zr_ireturn dJ0_charAt_5068e_15 rfl rfl e2 (Nat.le_refl _) (Nat.le_refl _) (And.intro rfl h)
end zj
section zk
variable {E : zE} {d : zD} {pc pc' : Nat} {al : List (Nat × zV)} {st : List zV} {M : zM} {Q : Int → zM → Prop}
theorem zn_slen {idx : Nat} (hd : decode d.2.1 pc = .ok (.invokevirtual idx, 3)) (hp : pc + 3 = pc') (hw : zCvo d.2.2.2.2.1 idx mJ0_length_8abf5 0) (hR : zRm d mJ0_length_8abf5) (h8 : (st.map zcat).sum ≤ 8) (k : zA E zNN (0, 0) d pc' al (.inl 77 :: st) M (zQ Q)) : zA E zNN (0, 0) d pc al (.inr (.inr (-200)) :: st) M (zQ Q) := by
  refine zr_callVO (d2 := mJ0_length_8abf5) (args := []) (st := st) (st' := fun r => .inl r :: st) (Q' := zQ (fun r M' => r = 77 ∧ M' = M)) hd hp hw hR rfl rfl h8 ⟨Nat.zero_le _, Nat.zero_le _⟩ (fun _ => rfl) (fun r N' M' h h2 => by rw [h.1] at h2; cases h2) (s_length ⟨rfl, rfl⟩) ?_
  rintro r N' M' ⟨rfl, rfl, rfl⟩
  exact k
theorem zn_schr {idx : Nat} {i : Int} (hd : decode d.2.1 pc = .ok (.invokevirtual idx, 3)) (hp : pc + 3 = pc') (hw : zCvo d.2.2.2.2.1 idx mJ0_charAt_5068e 1) (hR : zRm d mJ0_charAt_5068e) (h8 : (st.map zcat).sum ≤ 8) (hi : 0 ≤ i ∧ i < 77) (k : zA E zNN (0, 0) d pc' al (.inl (zWin.getD i.toNat 0) :: st) M (zQ Q)) : zA E zNN (0, 0) d pc al (.inl i :: .inr (.inr (-200)) :: st) M (zQ Q) := by
  refine zr_callVO (d2 := mJ0_charAt_5068e) (args := [.inl i]) (st := st) (st' := fun r => .inl r :: st) (Q' := zQ (fun r M' => r = zWin.getD i.toNat 0 ∧ M' = M)) hd hp hw hR rfl rfl h8 ⟨Nat.zero_le _, Nat.zero_le _⟩ (fun _ => rfl) (fun r N' M' h h2 => by rw [h.1] at h2; cases h2) (s_charAt hi ⟨rfl, rfl⟩) ?_
  rintro r N' M' ⟨rfl, rfl, rfl⟩
  exact k
end zk
theorem cvs_X9_56 : zCvo RX9 56 mJ0_length_8abf5 0 := ⟨rfl, (zi 3 97 rfl rfl), (zi 3 98 rfl rfl), (zi 3 99 rfl rfl), (zi 1 16 rfl rfl), (zi 3 100 rfl rfl), by decide, by decide, by decide +kernel⟩
theorem cvs_X9_62 : zCvo RX9 62 mJ0_charAt_5068e 1 := ⟨rfl, (zi 3 107 rfl rfl), (zi 3 108 rfl rfl), (zi 3 109 rfl rfl), (zi 1 16 rfl rfl), (zi 3 110 rfl rfl), by decide, by decide, by decide +kernel⟩
