set_option maxRecDepth 20000 in
theorem vcX12_allLevels {E : zE} {M : zM} {Q : Int → zM → Prop} (I2 : Nat → Int → zM → Prop) (I28 : Nat → Int → zM → Prop) (I61 : Nat → Int → Int → zM → Prop)
    (h : ∃ n', I2 n' 0 M)
    (h2 : ∀ (n : Nat) (l1 : Int) (M : zM), I2 n l1 M → ((zR l1) ∧ ((100 ≤ l1 → ∃ n', n' < n ∧ I28 n' 0 M) ∧ (l1 < 100 → (zP E mX12_rawOf [.inr (.inr 102), .inl l1, .inl l1] M (fun r1 M2 => (0 ≤ l1 ∧ l1 < 100) ∧ (∀ M3, M3 = zup M2 155 l1.toNat r1 → ∃ n', n' < n ∧ I2 n' (l1 + 1) M3)))))))
    (h28 : ∀ (n : Nat) (l1 : Int) (M : zM), I28 n l1 M → ((zR l1) ∧ ((100 ≤ l1 → Q 0 M) ∧ (l1 < 100 → (0 ≤ l1 ∧ l1 < 100) ∧ (∀ M4, M4 = zup M 154 l1.toNat 0 → ((zR (l1 - (M4 102 34))) ∧ ((0 ≤ (l1 - (M4 102 34)) → ∃ n', n' < n ∧ I61 n' l1 (l1 - (M4 102 34)) M4) ∧ ((l1 - (M4 102 34)) < 0 → ∃ n', n' < n ∧ I61 n' l1 0 M4))))))))
    (h61 : ∀ (n : Nat) (l1 l2 : Int) (M : zM), I61 n l1 l2 M → ((zR l2 ∧ zR l1) ∧ ((l1 < l2 → ∃ n', n' < n ∧ I28 n' (l1 + 1) M) ∧ (l2 ≤ l1 → (0 ≤ l2 ∧ l2 < 100) ∧ (0 ≤ l1 ∧ l1 < 100) ∧ ((zR (M 155 l2.toNat) ∧ zR (M 154 l1.toNat)) ∧ (((M 155 l2.toNat) ≤ (M 154 l1.toNat) → (0 ≤ l1 ∧ l1 < 100) ∧ (0 ≤ l1 ∧ l1 < 100) ∧ (∀ M5, M5 = zup M 154 l1.toNat (M 154 l1.toNat) → ∃ n', n' < n ∧ I61 n' l1 (l2 + 1) M5)) ∧ ((M 154 l1.toNat) < (M 155 l2.toNat) → (0 ≤ l2 ∧ l2 < 100) ∧ (0 ≤ l1 ∧ l1 < 100) ∧ (∀ M6, M6 = zup M 154 l1.toNat (M 155 l2.toNat) → ∃ n', n' < n ∧ I61 n' l1 (l2 + 1) M6))))))))
    : zP E mX12_allLevels [.inr (.inr 102)] M Q := by
  have key : ∀ n : Nat, (∀ (l1 : Int) (M : zM), I2 n l1 M → zA E zNN (0, 0) mX12_allLevels 2 [(0, .inr (.inr 102)), (1, .inl l1)] [] M (zQ Q)) ∧ (∀ (l1 : Int) (M : zM), I28 n l1 M → zA E zNN (0, 0) mX12_allLevels 28 [(0, .inr (.inr 102)), (1, .inl l1)] [] M (zQ Q)) ∧ (∀ (l1 l2 : Int) (M : zM), I61 n l1 l2 M → zA E zNN (0, 0) mX12_allLevels 61 [(0, .inr (.inr 102)), (1, .inl l1), (2, .inl l2)] [] M (zQ Q)) := by
    intro n
    induction n using Nat.strongRecOn with
    | ind n ih =>
      refine ⟨?_, ?_, ?_⟩
      · intro l1 M h
        have h := h2 n l1 M h
        refine zr_iload_n (pc' := 3) (i := 1) dX12_allLevels_2 rfl rfl rfl ?_
        refine zr_bipush (pc' := 5) dX12_allLevels_3 rfl rfl ?_
        refine zr_icmp_ge (tgt := 26) (pc' := 8) dX12_allLevels_5 rfl rfl h.1 (zRd rfl) (fun hc => ?_) (fun hc => ?_)
        · have h := h.2.1 hc
          refine zr_iconst (pc' := 27) dX12_allLevels_26 rfl ?_
          refine zr_istore_n (pc' := 28) (i := 1) (al' := [(1, .inl 0), (0, .inr (.inr 102))]) dX12_allLevels_27 rfl rfl (by decide) rfl ?_
          obtain ⟨n', hn, h⟩ := h
          exact zn_al ((ih n' hn).2.1 _ _ h) ⟨rfl, rfl, trivial⟩
        · have h := h.2.2 hc
          refine zr_aload_n (pc' := 9) (i := 0) dX12_allLevels_8 rfl rfl rfl ?_
          refine zr_get (pc' := 12) dX12_allLevels_9 rfl ps_102 kd_102 fl_X12_178 kc_12 (gv_102_84 _) ?_
          refine zr_iload_n (pc' := 13) (i := 1) dX12_allLevels_12 rfl rfl rfl ?_
          refine zr_aload_n (pc' := 14) (i := 0) dX12_allLevels_13 rfl rfl rfl ?_
          refine zr_iload_n (pc' := 15) (i := 1) dX12_allLevels_14 rfl rfl rfl ?_
          refine zr_iload_n (pc' := 16) (i := 1) dX12_allLevels_15 rfl rfl rfl ?_
          refine zn_callV (pc' := 19) (args := [.inl l1, .inl l1]) (st := [.inl l1, .inr (.inr 155)]) (st' := fun r1 => [.inl r1, .inl l1, .inr (.inr 155)]) dX12_allLevels_16 rfl cv_X12_402 ⟨rfl, rfl, by decide, by decide⟩ rfl ps_102 kd_102 rfl rfl (Nat.le_of_ble_eq_true rfl) (fun _ => rfl) h ?_
          intro r1 M2 h
          refine zr_iast (pc' := 20) dX12_allLevels_19 rfl ps_155 kd_155 (by decide) h.1.1 h.1.2 (fun M3 hM1 => ?_)
          have h := h.2 M3 hM1
          refine zr_iinc (pc' := 23) (al' := [(1, .inl (l1 + 1)), (0, .inr (.inr 102))]) dX12_allLevels_20 rfl rfl (by decide) rfl ?_
          refine zr_goto (pc' := 2) dX12_allLevels_23 rfl ?_
          obtain ⟨n', hn, h⟩ := h
          exact zn_al ((ih n' hn).1 _ _ h) ⟨rfl, rfl, trivial⟩
      · intro l1 M h
        have h := h28 n l1 M h
        refine zr_iload_n (pc' := 29) (i := 1) dX12_allLevels_28 rfl rfl rfl ?_
        refine zr_bipush (pc' := 31) dX12_allLevels_29 rfl rfl ?_
        refine zr_icmp_ge (tgt := 114) (pc' := 34) dX12_allLevels_31 rfl rfl h.1 (zRd rfl) (fun hc => ?_) (fun hc => ?_)
        · have h := h.2.1 hc
          exact zr_return (x := 0) dX12_allLevels_114 rfl (Nat.le_refl _) (Nat.le_refl _) (And.intro rfl h)
        · have h := h.2.2 hc
          refine zr_aload_n (pc' := 35) (i := 0) dX12_allLevels_34 rfl rfl rfl ?_
          refine zr_get (pc' := 38) dX12_allLevels_35 rfl ps_102 kd_102 fl_X12_175 kc_12 (gv_102_83 _) ?_
          refine zr_iload_n (pc' := 39) (i := 1) dX12_allLevels_38 rfl rfl rfl ?_
          refine zr_iconst (pc' := 40) dX12_allLevels_39 rfl ?_
          refine zr_iast (pc' := 41) dX12_allLevels_40 rfl ps_154 kd_154 (by decide) h.1.1 h.1.2 (fun M4 hM1 => ?_)
          have h := h.2 M4 hM1
          refine zr_iload_n (pc' := 42) (i := 1) dX12_allLevels_41 rfl rfl rfl ?_
          refine zr_aload_n (pc' := 43) (i := 0) dX12_allLevels_42 rfl rfl rfl ?_
          refine zr_get (pc' := 46) dX12_allLevels_43 rfl ps_102 kd_102 fl_X12_369 kc_12 (gv_102_34 _) ?_
          refine zr_isub (pc' := 47) dX12_allLevels_46 rfl ?_
          refine zr_if_ge (tgt := 54) (pc' := 50) dX12_allLevels_47 rfl rfl h.1 (fun hc => ?_) (fun hc => ?_)
          · have h := h.2.1 hc
            refine zr_iload_n (pc' := 55) (i := 1) dX12_allLevels_54 rfl rfl rfl ?_
            refine zr_aload_n (pc' := 56) (i := 0) dX12_allLevels_55 rfl rfl rfl ?_
            refine zr_get (pc' := 59) dX12_allLevels_56 rfl ps_102 kd_102 fl_X12_369 kc_12 (gv_102_34 _) ?_
            refine zr_isub (pc' := 60) dX12_allLevels_59 rfl ?_
            refine zr_istore_n (pc' := 61) (i := 2) (al' := [(2, .inl (l1 - (M4 102 34))), (0, .inr (.inr 102)), (1, .inl l1)]) dX12_allLevels_60 rfl rfl (by decide) rfl ?_
            obtain ⟨n', hn, h⟩ := h
            exact zn_al ((ih n' hn).2.2 _ _ _ h) ⟨rfl, rfl, rfl, trivial⟩
          · have h := h.2.2 hc
            refine zr_iconst (pc' := 51) dX12_allLevels_50 rfl ?_
            refine zr_goto (pc' := 60) dX12_allLevels_51 rfl ?_
            refine zr_istore_n (pc' := 61) (i := 2) (al' := [(2, .inl 0), (0, .inr (.inr 102)), (1, .inl l1)]) dX12_allLevels_60 rfl rfl (by decide) rfl ?_
            obtain ⟨n', hn, h⟩ := h
            exact zn_al ((ih n' hn).2.2 _ _ _ h) ⟨rfl, rfl, rfl, trivial⟩
      · intro l1 l2 M h
        have h := h61 n l1 l2 M h
        refine zr_iload_n (pc' := 62) (i := 2) dX12_allLevels_61 rfl rfl rfl ?_
        refine zr_iload_n (pc' := 63) (i := 1) dX12_allLevels_62 rfl rfl rfl ?_
        refine zr_icmp_gt (tgt := 108) (pc' := 66) dX12_allLevels_63 rfl rfl h.1.1 h.1.2 (fun hc => ?_) (fun hc => ?_)
        · have h := h.2.1 hc
          refine zr_iinc (pc' := 111) (al' := [(1, .inl (l1 + 1)), (0, .inr (.inr 102)), (2, .inl l2)]) dX12_allLevels_108 rfl rfl (by decide) rfl ?_
          refine zr_goto (pc' := 28) dX12_allLevels_111 rfl ?_
          obtain ⟨n', hn, h⟩ := h
          exact zn_al ((ih n' hn).2.1 _ _ h) ⟨rfl, rfl, trivial⟩
        · have h := h.2.2 hc
          refine zr_aload_n (pc' := 67) (i := 0) dX12_allLevels_66 rfl rfl rfl ?_
          refine zr_get (pc' := 70) dX12_allLevels_67 rfl ps_102 kd_102 fl_X12_175 kc_12 (gv_102_83 _) ?_
          refine zr_iload_n (pc' := 71) (i := 1) dX12_allLevels_70 rfl rfl rfl ?_
          refine zr_aload_n (pc' := 72) (i := 0) dX12_allLevels_71 rfl rfl rfl ?_
          refine zr_get (pc' := 75) dX12_allLevels_72 rfl ps_102 kd_102 fl_X12_178 kc_12 (gv_102_84 _) ?_
          refine zr_iload_n (pc' := 76) (i := 2) dX12_allLevels_75 rfl rfl rfl ?_
          refine zr_iald (pc' := 77) dX12_allLevels_76 rfl ps_155 kd_155 (by decide) h.1.1 h.1.2 ?_
          have h := h.2
          refine zr_aload_n (pc' := 78) (i := 0) dX12_allLevels_77 rfl rfl rfl ?_
          refine zr_get (pc' := 81) dX12_allLevels_78 rfl ps_102 kd_102 fl_X12_175 kc_12 (gv_102_83 _) ?_
          refine zr_iload_n (pc' := 82) (i := 1) dX12_allLevels_81 rfl rfl rfl ?_
          refine zr_iald (pc' := 83) dX12_allLevels_82 rfl ps_154 kd_154 (by decide) h.1.1 h.1.2 ?_
          have h := h.2
          refine zr_icmp_le (tgt := 95) (pc' := 86) dX12_allLevels_83 rfl rfl h.1.1 h.1.2 (fun hc => ?_) (fun hc => ?_)
          · have h := h.2.1 hc
            refine zr_aload_n (pc' := 96) (i := 0) dX12_allLevels_95 rfl rfl rfl ?_
            refine zr_get (pc' := 99) dX12_allLevels_96 rfl ps_102 kd_102 fl_X12_175 kc_12 (gv_102_83 _) ?_
            refine zr_iload_n (pc' := 100) (i := 1) dX12_allLevels_99 rfl rfl rfl ?_
            refine zr_iald (pc' := 101) dX12_allLevels_100 rfl ps_154 kd_154 (by decide) h.1.1 h.1.2 ?_
            have h := h.2
            refine zr_iast (pc' := 102) dX12_allLevels_101 rfl ps_154 kd_154 (by decide) h.1.1 h.1.2 (fun M5 hM1 => ?_)
            have h := h.2 M5 hM1
            refine zr_iinc (pc' := 105) (al' := [(2, .inl (l2 + 1)), (0, .inr (.inr 102)), (1, .inl l1)]) dX12_allLevels_102 rfl rfl (by decide) rfl ?_
            refine zr_goto (pc' := 61) dX12_allLevels_105 rfl ?_
            obtain ⟨n', hn, h⟩ := h
            exact zn_al ((ih n' hn).2.2 _ _ _ h) ⟨rfl, rfl, rfl, trivial⟩
          · have h := h.2.2 hc
            refine zr_aload_n (pc' := 87) (i := 0) dX12_allLevels_86 rfl rfl rfl ?_
            refine zr_get (pc' := 90) dX12_allLevels_87 rfl ps_102 kd_102 fl_X12_178 kc_12 (gv_102_84 _) ?_
            refine zr_iload_n (pc' := 91) (i := 2) dX12_allLevels_90 rfl rfl rfl ?_
            refine zr_iald (pc' := 92) dX12_allLevels_91 rfl ps_155 kd_155 (by decide) h.1.1 h.1.2 ?_
            have h := h.2
            refine zr_goto (pc' := 101) dX12_allLevels_92 rfl ?_
            refine zr_iast (pc' := 102) dX12_allLevels_101 rfl ps_154 kd_154 (by decide) h.1.1 h.1.2 (fun M6 hM1 => ?_)
            have h := h.2 M6 hM1
            refine zr_iinc (pc' := 105) (al' := [(2, .inl (l2 + 1)), (0, .inr (.inr 102)), (1, .inl l1)]) dX12_allLevels_102 rfl rfl (by decide) rfl ?_
            refine zr_goto (pc' := 61) dX12_allLevels_105 rfl ?_
            obtain ⟨n', hn, h⟩ := h
            exact zn_al ((ih n' hn).2.2 _ _ _ h) ⟨rfl, rfl, rfl, trivial⟩
  refine zP_of (by decide +kernel) rfl (Nat.le_of_ble_eq_true rfl) ?_
  show zA E zNN (0, 0) mX12_allLevels 0 [(0, .inr (.inr 102))] [] M (zQ Q)
  refine zr_iconst (pc' := 1) dX12_allLevels_0 rfl ?_
  refine zr_istore_n (pc' := 2) (i := 1) (al' := [(1, .inl 0), (0, .inr (.inr 102))]) dX12_allLevels_1 rfl rfl (by decide) rfl ?_
  obtain ⟨n', h⟩ := h
  exact zn_al ((key n').1 _ _ h) ⟨rfl, rfl, trivial⟩
set_option maxRecDepth 20000 in
theorem vcX12_warnedAt {E : zE} {M : zM} {Q : Int → zM → Prop} (l1 : Int) (I2 : Nat → Int → Int → zM → Prop)
    (h : ∃ n', I2 n' l1 0 M)
    (h2 : ∀ (n : Nat) (l1 l2 : Int) (M : zM), I2 n l1 l2 M → ((zR l2) ∧ ((100 ≤ l2 → Q (-1) M) ∧ (l2 < 100 → (0 ≤ l2 ∧ l2 < 100) ∧ (0 ≤ l1 ∧ l1 < 8) ∧ ((zR (M 154 l2.toNat) ∧ zR (M 145 l1.toNat)) ∧ (((M 154 l2.toNat) < (M 145 l1.toNat) → ∃ n', n' < n ∧ I2 n' l1 (l2 + 1) M) ∧ ((M 145 l1.toNat) ≤ (M 154 l2.toNat) → (0 ≤ l1 ∧ l1 < 8) ∧ Q (l2 + (M 146 l1.toNat)) M)))))))
    : zP E mX12_warnedAt [.inr (.inr 102), .inl l1] M Q := by
  have key : ∀ n : Nat, (∀ (l1 l2 : Int) (M : zM), I2 n l1 l2 M → zA E zNN (0, 0) mX12_warnedAt 2 [(0, .inr (.inr 102)), (1, .inl l1), (2, .inl l2)] [] M (zQ Q)) := by
    intro n
    induction n using Nat.strongRecOn with
    | ind n ih =>
      intro l1 l2 M h
      have h := h2 n l1 l2 M h
      refine zr_iload_n (pc' := 3) (i := 2) dX12_warnedAt_2 rfl rfl rfl ?_
      refine zr_bipush (pc' := 5) dX12_warnedAt_3 rfl rfl ?_
      refine zr_icmp_ge (tgt := 38) (pc' := 8) dX12_warnedAt_5 rfl rfl h.1 (zRd rfl) (fun hc => ?_) (fun hc => ?_)
      · have h := h.2.1 hc
        refine zr_iconst (pc' := 39) dX12_warnedAt_38 rfl ?_
        exact zr_ireturn dX12_warnedAt_39 rfl rfl trivial (Nat.le_refl _) (Nat.le_refl _) (And.intro rfl h)
      · have h := h.2.2 hc
        refine zr_aload_n (pc' := 9) (i := 0) dX12_warnedAt_8 rfl rfl rfl ?_
        refine zr_get (pc' := 12) dX12_warnedAt_9 rfl ps_102 kd_102 fl_X12_175 kc_12 (gv_102_83 _) ?_
        refine zr_iload_n (pc' := 13) (i := 2) dX12_warnedAt_12 rfl rfl rfl ?_
        refine zr_iald (pc' := 14) dX12_warnedAt_13 rfl ps_154 kd_154 (by decide) h.1.1 h.1.2 ?_
        have h := h.2
        refine zr_aload_n (pc' := 15) (i := 0) dX12_warnedAt_14 rfl rfl rfl ?_
        refine zr_get (pc' := 18) dX12_warnedAt_15 rfl ps_102 kd_102 fl_X12_148 kc_12 (gv_102_73 _) ?_
        refine zr_iload_n (pc' := 19) (i := 1) dX12_warnedAt_18 rfl rfl rfl ?_
        refine zr_iald (pc' := 20) dX12_warnedAt_19 rfl ps_145 kd_145 (by decide) h.1.1 h.1.2 ?_
        have h := h.2
        refine zr_icmp_lt (tgt := 32) (pc' := 23) dX12_warnedAt_20 rfl rfl h.1.1 h.1.2 (fun hc => ?_) (fun hc => ?_)
        · have h := h.2.1 hc
          refine zr_iinc (pc' := 35) (al' := [(2, .inl (l2 + 1)), (0, .inr (.inr 102)), (1, .inl l1)]) dX12_warnedAt_32 rfl rfl (by decide) rfl ?_
          refine zr_goto (pc' := 2) dX12_warnedAt_35 rfl ?_
          obtain ⟨n', hn, h⟩ := h
          exact zn_al ((ih n' hn) _ _ _ h) ⟨rfl, rfl, rfl, trivial⟩
        · have h := h.2.2 hc
          refine zr_iload_n (pc' := 24) (i := 2) dX12_warnedAt_23 rfl rfl rfl ?_
          refine zr_aload_n (pc' := 25) (i := 0) dX12_warnedAt_24 rfl rfl rfl ?_
          refine zr_get (pc' := 28) dX12_warnedAt_25 rfl ps_102 kd_102 fl_X12_151 kc_12 (gv_102_74 _) ?_
          refine zr_iload_n (pc' := 29) (i := 1) dX12_warnedAt_28 rfl rfl rfl ?_
          refine zr_iald (pc' := 30) dX12_warnedAt_29 rfl ps_146 kd_146 (by decide) h.1.1 h.1.2 ?_
          have h := h.2
          refine zr_iadd (pc' := 31) dX12_warnedAt_30 rfl ?_
          exact zr_ireturn dX12_warnedAt_31 rfl rfl trivial (Nat.le_refl _) (Nat.le_refl _) (And.intro rfl h)
  refine zP_of (by decide +kernel) rfl (Nat.le_of_ble_eq_true rfl) ?_
  show zA E zNN (0, 0) mX12_warnedAt 0 [(0, .inr (.inr 102)), (1, .inl l1)] [] M (zQ Q)
  refine zr_iconst (pc' := 1) dX12_warnedAt_0 rfl ?_
  refine zr_istore_n (pc' := 2) (i := 2) (al' := [(2, .inl 0), (0, .inr (.inr 102)), (1, .inl l1)]) dX12_warnedAt_1 rfl rfl (by decide) rfl ?_
  obtain ⟨n', h⟩ := h
  exact zn_al ((key n') _ _ _ h) ⟨rfl, rfl, rfl, trivial⟩
set_option maxRecDepth 20000 in
theorem vcX12_warned {E : zE} {M : zM} {Q : Int → zM → Prop} (l1 : Int)
    (h : (∀ M1, M1 = zup M 102 2 0 → (zP E mX12_isPlace [.inr (.inr 102), .inl l1] M1 (fun r2 M3 => ((zR r2) ∧ ((r2 = 0 → Q (-1) M3) ∧ (¬ r2 = 0 → (0 ≤ l1 ∧ l1 < 8) ∧ ((zR (M3 142 l1.toNat)) ∧ ((¬ (M3 142 l1.toNat) = 0 → (zP E mX12_allLevels [.inr (.inr 102)] M3 (fun r4 M5 => (zP E mX12_warnedAt [.inr (.inr 102), .inl l1] M5 (fun r6 M7 => Q r6 M7))))) ∧ ((M3 142 l1.toNat) = 0 → Q (-1) M3))))))))))
    : zP E mX12_warned [.inr (.inr 102), .inl l1] M Q := by
  refine zP_of (by decide +kernel) rfl (Nat.le_of_ble_eq_true rfl) ?_
  show zA E zNN (0, 0) mX12_warned 0 [(0, .inr (.inr 102)), (1, .inl l1)] [] M (zQ Q)
  refine zr_aload_n (pc' := 1) (i := 0) dX12_warned_0 rfl rfl rfl ?_
  refine zr_iconst (pc' := 2) dX12_warned_1 rfl ?_
  refine zr_put (pc' := 5) dX12_warned_2 rfl ps_102 kd_102 fl_X12_208 kc_12 rfl nf_102_2 rfl trivial (fun M1 hM1 => ?_)
  have h := h M1 hM1
  refine zr_aload_n (pc' := 6) (i := 0) dX12_warned_5 rfl rfl rfl ?_
  refine zr_iload_n (pc' := 7) (i := 1) dX12_warned_6 rfl rfl rfl ?_
  refine zn_callV (pc' := 10) (args := [.inl l1]) (st := []) (st' := fun r2 => [.inl r2]) dX12_warned_7 rfl cv_X12_452 ⟨rfl, rfl, by decide, by decide⟩ rfl ps_102 kd_102 rfl rfl (Nat.le_of_ble_eq_true rfl) (fun _ => rfl) h ?_
  intro r2 M3 h
  refine zr_if_eq (tgt := 22) (pc' := 13) dX12_warned_10 rfl rfl h.1 (fun hc => ?_) (fun hc => ?_)
  · have h := h.2.1 hc
    refine zr_iconst (pc' := 23) dX12_warned_22 rfl ?_
    exact zr_ireturn dX12_warned_23 rfl rfl trivial (Nat.le_refl _) (Nat.le_refl _) (And.intro rfl h)
  · have h := h.2.2 hc
    refine zr_aload_n (pc' := 14) (i := 0) dX12_warned_13 rfl rfl rfl ?_
    refine zr_get (pc' := 17) dX12_warned_14 rfl ps_102 kd_102 fl_X12_139 kc_12 (gv_102_70 _) ?_
    refine zr_iload_n (pc' := 18) (i := 1) dX12_warned_17 rfl rfl rfl ?_
    refine zr_zald (pc' := 19) dX12_warned_18 rfl ps_142 kd_142 (by decide) h.1.1 h.1.2 ?_
    have h := h.2
    refine zr_if_ne (tgt := 24) (pc' := 22) dX12_warned_19 rfl rfl h.1 (fun hc => ?_) (fun hc => ?_)
    · have h := h.2.1 hc
      refine zr_aload_n (pc' := 25) (i := 0) dX12_warned_24 rfl rfl rfl ?_
      refine zn_callV (pc' := 28) (args := []) (st := []) (st' := fun _ => []) dX12_warned_25 rfl cv_X12_455 ⟨rfl, rfl, by decide, by decide⟩ rfl ps_102 kd_102 rfl rfl (Nat.le_of_ble_eq_true rfl) (fun _ => rfl) h ?_
      intro r4 M5 h
      refine zr_aload_n (pc' := 29) (i := 0) dX12_warned_28 rfl rfl rfl ?_
      refine zr_iload_n (pc' := 30) (i := 1) dX12_warned_29 rfl rfl rfl ?_
      refine zn_callV (pc' := 33) (args := [.inl l1]) (st := []) (st' := fun r6 => [.inl r6]) dX12_warned_30 rfl cv_X12_458 ⟨rfl, rfl, by decide, by decide⟩ rfl ps_102 kd_102 rfl rfl (Nat.le_of_ble_eq_true rfl) (fun _ => rfl) h ?_
      intro r6 M7 h
      exact zr_ireturn dX12_warned_33 rfl rfl trivial (Nat.le_refl _) (Nat.le_refl _) (And.intro rfl h)
    · have h := h.2.2 hc
      refine zr_iconst (pc' := 23) dX12_warned_22 rfl ?_
      exact zr_ireturn dX12_warned_23 rfl rfl trivial (Nat.le_refl _) (Nat.le_refl _) (And.intro rfl h)
set_option maxRecDepth 20000 in
theorem vcX12_arc {E : zE} {M : zM} {Q : Int → zM → Prop} (l1 l2 l3 : Int)
    (h : (0 ≤ M 102 85 ∧ M 102 85 < 1400) ∧ (∀ M1, M1 = zup M 156 ((M 102 85).toNat) l1 → (0 ≤ M1 102 85 ∧ M1 102 85 < 1400) ∧ (∀ M2, M2 = zup M1 157 ((M1 102 85).toNat) l2 → (0 ≤ M2 102 85 ∧ M2 102 85 < 1400) ∧ (∀ M3, M3 = zup M2 158 ((M2 102 85).toNat) l3 → (0 ≤ M3 102 85 ∧ M3 102 85 < 1400) ∧ (∀ M4, M4 = zup M3 159 ((M3 102 85).toNat) 0 → (∀ M5, M5 = zup M4 102 85 ((M4 102 85) + 1) → Q 0 M5))))))
    : zP E mX12_arc [.inr (.inr 102), .inl l1, .inl l2, .inl l3] M Q := by
  refine zP_of (by decide +kernel) rfl (Nat.le_of_ble_eq_true rfl) ?_
  show zA E zNN (0, 0) mX12_arc 0 [(0, .inr (.inr 102)), (1, .inl l1), (2, .inl l2), (3, .inl l3)] [] M (zQ Q)
  refine zr_aload_n (pc' := 1) (i := 0) dX12_arc_0 rfl rfl rfl ?_
  refine zr_get (pc' := 4) dX12_arc_1 rfl ps_102 kd_102 fl_X12_181 kc_12 (gv_102_86 _) ?_
  refine zr_aload_n (pc' := 5) (i := 0) dX12_arc_4 rfl rfl rfl ?_
  refine zr_get (pc' := 8) dX12_arc_5 rfl ps_102 kd_102 fl_X12_461 kc_12 (gv_102_85 _) ?_
  refine zr_iload_n (pc' := 9) (i := 1) dX12_arc_8 rfl rfl rfl ?_
  refine zr_iast (pc' := 10) dX12_arc_9 rfl ps_156 kd_156 (by decide) h.1.1 h.1.2 (fun M1 hM1 => ?_)
  have h := h.2 M1 hM1
  refine zr_aload_n (pc' := 11) (i := 0) dX12_arc_10 rfl rfl rfl ?_
  refine zr_get (pc' := 14) dX12_arc_11 rfl ps_102 kd_102 fl_X12_184 kc_12 (gv_102_87 _) ?_
  refine zr_aload_n (pc' := 15) (i := 0) dX12_arc_14 rfl rfl rfl ?_
  refine zr_get (pc' := 18) dX12_arc_15 rfl ps_102 kd_102 fl_X12_461 kc_12 (gv_102_85 _) ?_
  refine zr_iload_n (pc' := 19) (i := 2) dX12_arc_18 rfl rfl rfl ?_
  refine zr_iast (pc' := 20) dX12_arc_19 rfl ps_157 kd_157 (by decide) h.1.1 h.1.2 (fun M2 hM1 => ?_)
  have h := h.2 M2 hM1
  refine zr_aload_n (pc' := 21) (i := 0) dX12_arc_20 rfl rfl rfl ?_
  refine zr_get (pc' := 24) dX12_arc_21 rfl ps_102 kd_102 fl_X12_187 kc_12 (gv_102_88 _) ?_
  refine zr_aload_n (pc' := 25) (i := 0) dX12_arc_24 rfl rfl rfl ?_
  refine zr_get (pc' := 28) dX12_arc_25 rfl ps_102 kd_102 fl_X12_461 kc_12 (gv_102_85 _) ?_
  refine zr_iload_n (pc' := 29) (i := 3) dX12_arc_28 rfl rfl rfl ?_
  refine zr_iast (pc' := 30) dX12_arc_29 rfl ps_158 kd_158 (by decide) h.1.1 h.1.2 (fun M3 hM1 => ?_)
  have h := h.2 M3 hM1
  refine zr_aload_n (pc' := 31) (i := 0) dX12_arc_30 rfl rfl rfl ?_
  refine zr_get (pc' := 34) dX12_arc_31 rfl ps_102 kd_102 fl_X12_190 kc_12 (gv_102_89 _) ?_
  refine zr_aload_n (pc' := 35) (i := 0) dX12_arc_34 rfl rfl rfl ?_
  refine zr_get (pc' := 38) dX12_arc_35 rfl ps_102 kd_102 fl_X12_461 kc_12 (gv_102_85 _) ?_
  refine zr_iconst (pc' := 39) dX12_arc_38 rfl ?_
  refine zr_iast (pc' := 40) dX12_arc_39 rfl ps_159 kd_159 (by decide) h.1.1 h.1.2 (fun M4 hM1 => ?_)
  have h := h.2 M4 hM1
  refine zr_aload_n (pc' := 41) (i := 0) dX12_arc_40 rfl rfl rfl ?_
  refine zr_dup (pc' := 42) dX12_arc_41 rfl rfl ?_
  refine zr_get (pc' := 45) dX12_arc_42 rfl ps_102 kd_102 fl_X12_461 kc_12 (gv_102_85 _) ?_
  refine zr_iconst (pc' := 46) dX12_arc_45 rfl ?_
  refine zr_iadd (pc' := 47) dX12_arc_46 rfl ?_
  refine zr_put (pc' := 50) dX12_arc_47 rfl ps_102 kd_102 fl_X12_461 kc_12 rfl nf_102_85 rfl trivial (fun M5 hM1 => ?_)
  have h := h M5 hM1
  exact zr_return (x := 0) dX12_arc_50 rfl (Nat.le_refl _) (Nat.le_refl _) (And.intro rfl h)
set_option maxRecDepth 20000 in
theorem vcX12_nodeOf {E : zE} {M : zM} {Q : Int → zM → Prop} (l1 l2 : Int)
    (h : Q (((25 * l1) + l2) - (M 102 92)) M)
    : zP E mX12_nodeOf [.inr (.inr 102), .inl l1, .inl l2] M Q := by
  refine zP_of (by decide +kernel) rfl (Nat.le_of_ble_eq_true rfl) ?_
  show zA E zNN (0, 0) mX12_nodeOf 0 [(0, .inr (.inr 102)), (1, .inl l1), (2, .inl l2)] [] M (zQ Q)
  refine zr_bipush (pc' := 2) dX12_nodeOf_0 rfl rfl ?_
  refine zr_iload_n (pc' := 3) (i := 1) dX12_nodeOf_2 rfl rfl rfl ?_
  refine zr_imul (pc' := 4) dX12_nodeOf_3 rfl ?_
  refine zr_iload_n (pc' := 5) (i := 2) dX12_nodeOf_4 rfl rfl rfl ?_
  refine zr_iadd (pc' := 6) dX12_nodeOf_5 rfl ?_
  refine zr_aload_n (pc' := 7) (i := 0) dX12_nodeOf_6 rfl rfl rfl ?_
  refine zr_get (pc' := 10) dX12_nodeOf_7 rfl ps_102 kd_102 fl_X12_464 kc_12 (gv_102_92 _) ?_
  refine zr_isub (pc' := 11) dX12_nodeOf_10 rfl ?_
  exact zr_ireturn dX12_nodeOf_11 rfl rfl trivial (Nat.le_refl _) (Nat.le_refl _) (And.intro rfl h)
set_option maxRecDepth 20000 in
theorem vcX12_shutFrom {E : zE} {M : zM} {Q : Int → zM → Prop} (l1 l2 : Int)
    (h : (0 ≤ l2 ∧ l2 < 64) ∧ ((zR (M 139 l2.toNat)) ∧ ((¬ (M 139 l2.toNat) = 13 → (0 ≤ l1 ∧ l1 < 3) ∧ (0 ≤ l2 ∧ l2 < 64) ∧ Q ((M 132 l1.toNat) + (M 139 l2.toNat)) M) ∧ ((M 139 l2.toNat) = 13 → Q 1000000 M))))
    : zP E mX12_shutFrom [.inr (.inr 102), .inl l1, .inl l2] M Q := by
  refine zP_of (by decide +kernel) rfl (Nat.le_of_ble_eq_true rfl) ?_
  show zA E zNN (0, 0) mX12_shutFrom 0 [(0, .inr (.inr 102)), (1, .inl l1), (2, .inl l2)] [] M (zQ Q)
  refine zr_aload_n (pc' := 1) (i := 0) dX12_shutFrom_0 rfl rfl rfl ?_
  refine zr_get (pc' := 4) dX12_shutFrom_1 rfl ps_102 kd_102 fl_X12_130 kc_12 (gv_102_66 _) ?_
  refine zr_iload_n (pc' := 5) (i := 2) dX12_shutFrom_4 rfl rfl rfl ?_
  refine zr_iald (pc' := 6) dX12_shutFrom_5 rfl ps_139 kd_139 (by decide) h.1.1 h.1.2 ?_
  have h := h.2
  refine zr_bipush (pc' := 8) dX12_shutFrom_6 rfl rfl ?_
  refine zr_icmp_ne (tgt := 17) (pc' := 11) dX12_shutFrom_8 rfl rfl h.1 (zRd rfl) (fun hc => ?_) (fun hc => ?_)
  · have h := h.2.1 hc
    refine zr_aload_n (pc' := 18) (i := 0) dX12_shutFrom_17 rfl rfl rfl ?_
    refine zr_get (pc' := 21) dX12_shutFrom_18 rfl ps_102 kd_102 fl_X12_109 kc_12 (gv_102_59 _) ?_
    refine zr_iload_n (pc' := 22) (i := 1) dX12_shutFrom_21 rfl rfl rfl ?_
    refine zr_iald (pc' := 23) dX12_shutFrom_22 rfl ps_132 kd_132 (by decide) h.1.1 h.1.2 ?_
    have h := h.2
    refine zr_aload_n (pc' := 24) (i := 0) dX12_shutFrom_23 rfl rfl rfl ?_
    refine zr_get (pc' := 27) dX12_shutFrom_24 rfl ps_102 kd_102 fl_X12_130 kc_12 (gv_102_66 _) ?_
    refine zr_iload_n (pc' := 28) (i := 2) dX12_shutFrom_27 rfl rfl rfl ?_
    refine zr_iald (pc' := 29) dX12_shutFrom_28 rfl ps_139 kd_139 (by decide) h.1.1 h.1.2 ?_
    have h := h.2
    refine zr_iadd (pc' := 30) dX12_shutFrom_29 rfl ?_
    exact zr_ireturn dX12_shutFrom_30 rfl rfl trivial (Nat.le_refl _) (Nat.le_refl _) (And.intro rfl h)
  · have h := h.2.2 hc
    refine zr_ldcw (pc' := 14) (x := 1000000) dX12_shutFrom_11 rfl ci_X12_467 ?_
    refine zr_goto (pc' := 30) dX12_shutFrom_14 rfl ?_
    exact zr_ireturn dX12_shutFrom_30 rfl rfl trivial (Nat.le_refl _) (Nat.le_refl _) (And.intro rfl h)
set_option maxRecDepth 20000 in
theorem vcX12_isOpen {E : zE} {M : zM} {Q : Int → zM → Prop} (l1 l2 l3 : Int)
    (h : (0 ≤ l2 ∧ l2 < 8) ∧ ((zR (M 142 l2.toNat)) ∧ (((M 142 l2.toNat) = 0 → Q 1 M) ∧ (¬ (M 142 l2.toNat) = 0 → (0 ≤ l2 ∧ l2 < 8) ∧ (zP E mX12_shutFrom [.inr (.inr 102), .inl l1, .inl (M 143 l2.toNat)] M (fun r1 M2 => ((zR r1 ∧ zR l3) ∧ ((r1 ≤ l3 → Q 0 M2) ∧ (l3 < r1 → Q 1 M2)))))))))
    : zP E mX12_isOpen [.inr (.inr 102), .inl l1, .inl l2, .inl l3] M Q := by
  refine zP_of (by decide +kernel) rfl (Nat.le_of_ble_eq_true rfl) ?_
  show zA E zNN (0, 0) mX12_isOpen 0 [(0, .inr (.inr 102)), (1, .inl l1), (2, .inl l2), (3, .inl l3)] [] M (zQ Q)
  refine zr_aload_n (pc' := 1) (i := 0) dX12_isOpen_0 rfl rfl rfl ?_
  refine zr_get (pc' := 4) dX12_isOpen_1 rfl ps_102 kd_102 fl_X12_139 kc_12 (gv_102_70 _) ?_
  refine zr_iload_n (pc' := 5) (i := 2) dX12_isOpen_4 rfl rfl rfl ?_
  refine zr_zald (pc' := 6) dX12_isOpen_5 rfl ps_142 kd_142 (by decide) h.1.1 h.1.2 ?_
  have h := h.2
  refine zr_if_eq (tgt := 24) (pc' := 9) dX12_isOpen_6 rfl rfl h.1 (fun hc => ?_) (fun hc => ?_)
  · have h := h.2.1 hc
    refine zr_iconst (pc' := 25) dX12_isOpen_24 rfl ?_
    refine zr_goto (pc' := 29) dX12_isOpen_25 rfl ?_
    exact zr_ireturn dX12_isOpen_29 rfl rfl (Or.inr rfl) (Nat.le_refl _) (Nat.le_refl _) (And.intro rfl h)
  · have h := h.2.2 hc
    refine zr_aload_n (pc' := 10) (i := 0) dX12_isOpen_9 rfl rfl rfl ?_
    refine zr_iload_n (pc' := 11) (i := 1) dX12_isOpen_10 rfl rfl rfl ?_
    refine zr_aload_n (pc' := 12) (i := 0) dX12_isOpen_11 rfl rfl rfl ?_
    refine zr_get (pc' := 15) dX12_isOpen_12 rfl ps_102 kd_102 fl_X12_142 kc_12 (gv_102_71 _) ?_
    refine zr_iload_n (pc' := 16) (i := 2) dX12_isOpen_15 rfl rfl rfl ?_
    refine zr_iald (pc' := 17) dX12_isOpen_16 rfl ps_143 kd_143 (by decide) h.1.1 h.1.2 ?_
    have h := h.2
    refine zn_callV (pc' := 20) (args := [.inl l1, .inl (M 143 l2.toNat)]) (st := []) (st' := fun r1 => [.inl r1]) dX12_isOpen_17 rfl cv_X12_468 ⟨rfl, rfl, by decide, by decide⟩ rfl ps_102 kd_102 rfl rfl (Nat.le_of_ble_eq_true rfl) (fun _ => rfl) h ?_
    intro r1 M2 h
    refine zr_iload_n (pc' := 21) (i := 3) dX12_isOpen_20 rfl rfl rfl ?_
    refine zr_icmp_le (tgt := 28) (pc' := 24) dX12_isOpen_21 rfl rfl h.1.1 h.1.2 (fun hc => ?_) (fun hc => ?_)
    · have h := h.2.1 hc
      refine zr_iconst (pc' := 29) dX12_isOpen_28 rfl ?_
      exact zr_ireturn dX12_isOpen_29 rfl rfl (Or.inl rfl) (Nat.le_refl _) (Nat.le_refl _) (And.intro rfl h)
    · have h := h.2.2 hc
      refine zr_iconst (pc' := 25) dX12_isOpen_24 rfl ?_
      refine zr_goto (pc' := 29) dX12_isOpen_25 rfl ?_
      exact zr_ireturn dX12_isOpen_29 rfl rfl (Or.inr rfl) (Nat.le_refl _) (Nat.le_refl _) (And.intro rfl h)
set_option maxRecDepth 20000 in
theorem vcX12_lays {E : zE} {M : zM} {Q : Int → zM → Prop} (l1 : Int) (I53 : Nat → Int → Int → zM → Prop) (I92 : Nat → Int → Int → zM → Prop) (I105 : Nat → Int → Int → Int → zM → Prop)
    (h : (0 ≤ l1 ∧ l1 < 3) ∧ ((zR (M 132 l1.toNat)) ∧ ((12 ≤ (M 132 l1.toNat) → (0 ≤ l1 ∧ l1 < 3) ∧ (∀ M1, M1 = zup M 102 92 ((M 132 l1.toNat) - 12) → (0 ≤ l1 ∧ l1 < 3) ∧ (∀ M2, M2 = zup M1 102 93 ((M1 132 l1.toNat) + 12) → (∀ M3, M3 = zup M2 102 85 0 → (∀ M4, M4 = zup M3 102 94 0 → ∃ n', I53 n' l1 0 M4))))) ∧ ((M 132 l1.toNat) < 12 → (∀ M5, M5 = zup M 102 92 0 → (0 ≤ l1 ∧ l1 < 3) ∧ (∀ M6, M6 = zup M5 102 93 ((M5 132 l1.toNat) + 12) → (∀ M7, M7 = zup M6 102 85 0 → (∀ M8, M8 = zup M7 102 94 0 → ∃ n', I53 n' l1 0 M8))))))))
    (h53 : ∀ (n : Nat) (l1 l2 : Int) (M : zM), I53 n l1 l2 M → ((zR l2 ∧ zR (M 102 69)) ∧ (((M 102 69) ≤ l2 → ∃ n', n' < n ∧ I92 n' l1 0 M) ∧ (l2 < (M 102 69) → (0 ≤ l2 ∧ l2 < 8) ∧ ((zR (M 142 l2.toNat)) ∧ (((M 142 l2.toNat) = 0 → (zP E mX12_laysShelter [.inr (.inr 102), .inl l2] M (fun r9 M10 => ∃ n', n' < n ∧ I53 n' l1 (l2 + 1) M10))) ∧ (¬ (M 142 l2.toNat) = 0 → (zP E mX12_laysTown [.inr (.inr 102), .inl l1, .inl l2] M (fun r11 M12 => ∃ n', n' < n ∧ I53 n' l1 (l2 + 1) M12)))))))))
    (h92 : ∀ (n : Nat) (l1 l2 : Int) (M : zM), I92 n l1 l2 M → ((zR l2 ∧ zR (M 102 76)) ∧ (((M 102 76) ≤ l2 → Q 0 M) ∧ (l2 < (M 102 76) → ∃ n', n' < n ∧ I105 n' l1 l2 (M 102 92) M))))
    (h105 : ∀ (n : Nat) (l1 l2 l3 : Int) (M : zM), I105 n l1 l2 l3 M → (0 ≤ l2 ∧ l2 < 14) ∧ ((zR (l3 + (M 150 l2.toNat)) ∧ zR (M 102 93)) ∧ (((M 102 93) < (l3 + (M 150 l2.toNat)) → ∃ n', n' < n ∧ I92 n' l1 (l2 + 1) M) ∧ ((l3 + (M 150 l2.toNat)) ≤ (M 102 93) → (0 ≤ l2 ∧ l2 < 14) ∧ (0 ≤ l2 ∧ l2 < 14) ∧ (zR l3 ∧ zR (M 152 l2.toNat) ∧ M 152 l2.toNat ≠ 0) ∧ ((zR (Int.tmod l3 (M 152 l2.toNat))) ∧ ((¬ (Int.tmod l3 (M 152 l2.toNat)) = 0 → ∃ n', n' < n ∧ I105 n' l1 l2 (l3 + 1) M) ∧ ((Int.tmod l3 (M 152 l2.toNat)) = 0 → (0 ≤ l2 ∧ l2 < 14) ∧ (zP E mX12_isOpen [.inr (.inr 102), .inl l1, .inl (M 148 l2.toNat), .inl l3] M (fun r13 M14 => ((zR r13) ∧ ((r13 = 0 → ∃ n', n' < n ∧ I105 n' l1 l2 (l3 + 1) M14) ∧ (¬ r13 = 0 → (0 ≤ l2 ∧ l2 < 14) ∧ (zP E mX12_isOpen [.inr (.inr 102), .inl l1, .inl (M14 149 l2.toNat), .inl (l3 + (M 150 l2.toNat))] M14 (fun r15 M16 => ((zR r15) ∧ ((r15 = 0 → ∃ n', n' < n ∧ I105 n' l1 l2 (l3 + 1) M16) ∧ (¬ r15 = 0 → (0 ≤ l2 ∧ l2 < 14) ∧ ((zR (M16 153 l2.toNat)) ∧ (((M16 153 l2.toNat) = (-1) → (0 ≤ l2 ∧ l2 < 14) ∧ (zP E mX12_nodeOf [.inr (.inr 102), .inl (M16 148 l2.toNat), .inl l3] M16 (fun r17 M18 => (0 ≤ l2 ∧ l2 < 14) ∧ (zP E mX12_nodeOf [.inr (.inr 102), .inl (M18 149 l2.toNat), .inl (l3 + (M 150 l2.toNat))] M18 (fun r19 M20 => (0 ≤ l2 ∧ l2 < 14) ∧ (zP E mX12_arc [.inr (.inr 102), .inl r17, .inl r19, .inl (M20 151 l2.toNat)] M20 (fun r21 M22 => ∃ n', n' < n ∧ I105 n' l1 l2 (l3 + 1) M22))))))) ∧ (¬ (M16 153 l2.toNat) = (-1) → (0 ≤ l2 ∧ l2 < 14) ∧ (zP E mX12_shutFrom [.inr (.inr 102), .inl l1, .inl (M16 153 l2.toNat)] M16 (fun r23 M24 => ((zR r23 ∧ zR (l3 + (M 150 l2.toNat))) ∧ ((r23 ≤ (l3 + (M 150 l2.toNat)) → ∃ n', n' < n ∧ I105 n' l1 l2 (l3 + 1) M24) ∧ ((l3 + (M 150 l2.toNat)) < r23 → (0 ≤ l2 ∧ l2 < 14) ∧ (zP E mX12_nodeOf [.inr (.inr 102), .inl (M24 148 l2.toNat), .inl l3] M24 (fun r25 M26 => (0 ≤ l2 ∧ l2 < 14) ∧ (zP E mX12_nodeOf [.inr (.inr 102), .inl (M26 149 l2.toNat), .inl (l3 + (M 150 l2.toNat))] M26 (fun r27 M28 => (0 ≤ l2 ∧ l2 < 14) ∧ (zP E mX12_arc [.inr (.inr 102), .inl r25, .inl r27, .inl (M28 151 l2.toNat)] M28 (fun r29 M30 => ∃ n', n' < n ∧ I105 n' l1 l2 (l3 + 1) M30)))))))))))))))))))))))))))))))
    : zP E mX12_lays [.inr (.inr 102), .inl l1] M Q := by
  have key : ∀ n : Nat, (∀ (l1 l2 : Int) (M : zM), I53 n l1 l2 M → zA E zNN (0, 0) mX12_lays 53 [(0, .inr (.inr 102)), (1, .inl l1), (2, .inl l2)] [] M (zQ Q)) ∧ (∀ (l1 l2 : Int) (M : zM), I92 n l1 l2 M → zA E zNN (0, 0) mX12_lays 92 [(0, .inr (.inr 102)), (1, .inl l1), (2, .inl l2)] [] M (zQ Q)) ∧ (∀ (l1 l2 l3 : Int) (M : zM), I105 n l1 l2 l3 M → zA E zNN (0, 0) mX12_lays 105 [(0, .inr (.inr 102)), (1, .inl l1), (2, .inl l2), (3, .inl l3)] [] M (zQ Q)) := by
    intro n
    induction n using Nat.strongRecOn with
    | ind n ih =>
      refine ⟨?_, ?_, ?_⟩
      · intro l1 l2 M h
        have h := h53 n l1 l2 M h
        refine zr_iload_n (pc' := 54) (i := 2) dX12_lays_53 rfl rfl rfl ?_
        refine zr_aload_n (pc' := 55) (i := 0) dX12_lays_54 rfl rfl rfl ?_
        refine zr_get (pc' := 58) dX12_lays_55 rfl ps_102 kd_102 fl_X12_414 kc_12 (gv_102_69 _) ?_
        refine zr_icmp_ge (tgt := 90) (pc' := 61) dX12_lays_58 rfl rfl h.1.1 h.1.2 (fun hc => ?_) (fun hc => ?_)
        · have h := h.2.1 hc
          refine zr_iconst (pc' := 91) dX12_lays_90 rfl ?_
          refine zr_istore_n (pc' := 92) (i := 2) (al' := [(2, .inl 0), (0, .inr (.inr 102)), (1, .inl l1)]) dX12_lays_91 rfl rfl (by decide) rfl ?_
          obtain ⟨n', hn, h⟩ := h
          exact zn_al ((ih n' hn).2.1 _ _ _ h) ⟨rfl, rfl, rfl, trivial⟩
        · have h := h.2.2 hc
          refine zr_aload_n (pc' := 62) (i := 0) dX12_lays_61 rfl rfl rfl ?_
          refine zr_get (pc' := 65) dX12_lays_62 rfl ps_102 kd_102 fl_X12_139 kc_12 (gv_102_70 _) ?_
          refine zr_iload_n (pc' := 66) (i := 2) dX12_lays_65 rfl rfl rfl ?_
          refine zr_zald (pc' := 67) dX12_lays_66 rfl ps_142 kd_142 (by decide) h.1.1 h.1.2 ?_
          have h := h.2
          refine zr_if_eq (tgt := 79) (pc' := 70) dX12_lays_67 rfl rfl h.1 (fun hc => ?_) (fun hc => ?_)
          · have h := h.2.1 hc
            refine zr_aload_n (pc' := 80) (i := 0) dX12_lays_79 rfl rfl rfl ?_
            refine zr_iload_n (pc' := 81) (i := 2) dX12_lays_80 rfl rfl rfl ?_
            refine zn_callV (pc' := 84) (args := [.inl l2]) (st := []) (st' := fun _ => []) dX12_lays_81 rfl cv_X12_480 ⟨rfl, rfl, by decide, by decide⟩ rfl ps_102 kd_102 rfl rfl (Nat.le_of_ble_eq_true rfl) (fun _ => rfl) h ?_
            intro r9 M10 h
            refine zr_iinc (pc' := 87) (al' := [(2, .inl (l2 + 1)), (0, .inr (.inr 102)), (1, .inl l1)]) dX12_lays_84 rfl rfl (by decide) rfl ?_
            refine zr_goto (pc' := 53) dX12_lays_87 rfl ?_
            obtain ⟨n', hn, h⟩ := h
            exact zn_al ((ih n' hn).1 _ _ _ h) ⟨rfl, rfl, rfl, trivial⟩
          · have h := h.2.2 hc
            refine zr_aload_n (pc' := 71) (i := 0) dX12_lays_70 rfl rfl rfl ?_
            refine zr_iload_n (pc' := 72) (i := 1) dX12_lays_71 rfl rfl rfl ?_
            refine zr_iload_n (pc' := 73) (i := 2) dX12_lays_72 rfl rfl rfl ?_
            refine zn_callV (pc' := 76) (args := [.inl l1, .inl l2]) (st := []) (st' := fun _ => []) dX12_lays_73 rfl cv_X12_477 ⟨rfl, rfl, by decide, by decide⟩ rfl ps_102 kd_102 rfl rfl (Nat.le_of_ble_eq_true rfl) (fun _ => rfl) h ?_
            intro r11 M12 h
            refine zr_goto (pc' := 84) dX12_lays_76 rfl ?_
            refine zr_iinc (pc' := 87) (al' := [(2, .inl (l2 + 1)), (0, .inr (.inr 102)), (1, .inl l1)]) dX12_lays_84 rfl rfl (by decide) rfl ?_
            refine zr_goto (pc' := 53) dX12_lays_87 rfl ?_
            obtain ⟨n', hn, h⟩ := h
            exact zn_al ((ih n' hn).1 _ _ _ h) ⟨rfl, rfl, rfl, trivial⟩
      · intro l1 l2 M h
        have h := h92 n l1 l2 M h
        refine zr_iload_n (pc' := 93) (i := 2) dX12_lays_92 rfl rfl rfl ?_
        refine zr_aload_n (pc' := 94) (i := 0) dX12_lays_93 rfl rfl rfl ?_
        refine zr_get (pc' := 97) dX12_lays_94 rfl ps_102 kd_102 fl_X12_417 kc_12 (gv_102_76 _) ?_
        refine zr_icmp_ge (tgt := 255) (pc' := 100) dX12_lays_97 rfl rfl h.1.1 h.1.2 (fun hc => ?_) (fun hc => ?_)
        · have h := h.2.1 hc
          exact zr_return (x := 0) dX12_lays_255 rfl (Nat.le_refl _) (Nat.le_refl _) (And.intro rfl h)
        · have h := h.2.2 hc
          refine zr_aload_n (pc' := 101) (i := 0) dX12_lays_100 rfl rfl rfl ?_
          refine zr_get (pc' := 104) dX12_lays_101 rfl ps_102 kd_102 fl_X12_464 kc_12 (gv_102_92 _) ?_
          refine zr_istore_n (pc' := 105) (i := 3) (al' := [(3, .inl (M 102 92)), (0, .inr (.inr 102)), (1, .inl l1), (2, .inl l2)]) dX12_lays_104 rfl rfl (by decide) rfl ?_
          obtain ⟨n', hn, h⟩ := h
          exact zn_al ((ih n' hn).2.2 _ _ _ _ h) ⟨rfl, rfl, rfl, rfl, trivial⟩
      · intro l1 l2 l3 M h
        have h := h105 n l1 l2 l3 M h
        refine zr_iload_n (pc' := 106) (i := 3) dX12_lays_105 rfl rfl rfl ?_
        refine zr_aload_n (pc' := 107) (i := 0) dX12_lays_106 rfl rfl rfl ?_
        refine zr_get (pc' := 110) dX12_lays_107 rfl ps_102 kd_102 fl_X12_163 kc_12 (gv_102_79 _) ?_
        refine zr_iload_n (pc' := 111) (i := 2) dX12_lays_110 rfl rfl rfl ?_
        refine zr_iald (pc' := 112) dX12_lays_111 rfl ps_150 kd_150 (by decide) h.1.1 h.1.2 ?_
        have h := h.2
        refine zr_iadd (pc' := 113) dX12_lays_112 rfl ?_
        refine zr_aload_n (pc' := 114) (i := 0) dX12_lays_113 rfl rfl rfl ?_
        refine zr_get (pc' := 117) dX12_lays_114 rfl ps_102 kd_102 fl_X12_471 kc_12 (gv_102_93 _) ?_
        refine zr_icmp_gt (tgt := 249) (pc' := 120) dX12_lays_117 rfl rfl h.1.1 h.1.2 (fun hc => ?_) (fun hc => ?_)
        · have h := h.2.1 hc
          refine zr_iinc (pc' := 252) (al' := [(2, .inl (l2 + 1)), (0, .inr (.inr 102)), (1, .inl l1), (3, .inl l3)]) dX12_lays_249 rfl rfl (by decide) rfl ?_
          refine zr_goto (pc' := 92) dX12_lays_252 rfl ?_
          obtain ⟨n', hn, h⟩ := h
          exact zn_al ((ih n' hn).2.1 _ _ _ h) ⟨rfl, rfl, rfl, trivial⟩
        · have h := h.2.2 hc
          refine zr_iload_n (pc' := 121) (i := 3) dX12_lays_120 rfl rfl rfl ?_
          refine zr_aload_n (pc' := 122) (i := 0) dX12_lays_121 rfl rfl rfl ?_
          refine zr_get (pc' := 125) dX12_lays_122 rfl ps_102 kd_102 fl_X12_163 kc_12 (gv_102_79 _) ?_
          refine zr_iload_n (pc' := 126) (i := 2) dX12_lays_125 rfl rfl rfl ?_
          refine zr_iald (pc' := 127) dX12_lays_126 rfl ps_150 kd_150 (by decide) h.1.1 h.1.2 ?_
          have h := h.2
          refine zr_iadd (pc' := 128) dX12_lays_127 rfl ?_
          refine zr_istore (pc' := 130) (al' := [(4, .inl (l3 + (M 150 l2.toNat))), (0, .inr (.inr 102)), (1, .inl l1), (2, .inl l2), (3, .inl l3)]) dX12_lays_128 rfl (by decide) rfl ?_
          refine zr_iload_n (pc' := 131) (i := 3) dX12_lays_130 rfl rfl rfl ?_
          refine zr_aload_n (pc' := 132) (i := 0) dX12_lays_131 rfl rfl rfl ?_
          refine zr_get (pc' := 135) dX12_lays_132 rfl ps_102 kd_102 fl_X12_169 kc_12 (gv_102_81 _) ?_
          refine zr_iload_n (pc' := 136) (i := 2) dX12_lays_135 rfl rfl rfl ?_
          refine zr_iald (pc' := 137) dX12_lays_136 rfl ps_152 kd_152 (by decide) h.1.1 h.1.2 ?_
          have h := h.2
          refine zr_irem (pc' := 138) dX12_lays_137 rfl h.1.1 h.1.2.1 h.1.2.2 ?_
          have h := h.2
          refine zr_if_ne (tgt := 202) (pc' := 141) dX12_lays_138 rfl rfl h.1 (fun hc => ?_) (fun hc => ?_)
          · have h := h.2.1 hc
            refine zr_iconst (pc' := 203) dX12_lays_202 rfl ?_
            refine zr_istore (pc' := 205) (al' := [(5, .inl 0), (4, .inl (l3 + (M 150 l2.toNat))), (0, .inr (.inr 102)), (1, .inl l1), (2, .inl l2), (3, .inl l3)]) dX12_lays_203 rfl (by decide) rfl ?_
            refine zr_iload (pc' := 207) dX12_lays_205 rfl rfl ?_
            refine zr_if_eq (tgt := 243) (pc' := 210) dX12_lays_207 rfl rfl (zRd rfl) (fun _ => ?_) (fun hc => absurd hc (by decide))
            refine zr_iinc (pc' := 246) (al' := [(3, .inl (l3 + 1)), (5, .inl 0), (4, .inl (l3 + (M 150 l2.toNat))), (0, .inr (.inr 102)), (1, .inl l1), (2, .inl l2)]) dX12_lays_243 rfl rfl (by decide) rfl ?_
            refine zr_goto (pc' := 105) dX12_lays_246 rfl ?_
            obtain ⟨n', hn, h⟩ := h
            exact zn_al ((ih n' hn).2.2 _ _ _ _ h) ⟨rfl, rfl, rfl, rfl, trivial⟩
          · have h := h.2.2 hc
            refine zr_aload_n (pc' := 142) (i := 0) dX12_lays_141 rfl rfl rfl ?_
            refine zr_iload_n (pc' := 143) (i := 1) dX12_lays_142 rfl rfl rfl ?_
            refine zr_aload_n (pc' := 144) (i := 0) dX12_lays_143 rfl rfl rfl ?_
            refine zr_get (pc' := 147) dX12_lays_144 rfl ps_102 kd_102 fl_X12_157 kc_12 (gv_102_77 _) ?_
            refine zr_iload_n (pc' := 148) (i := 2) dX12_lays_147 rfl rfl rfl ?_
            refine zr_iald (pc' := 149) dX12_lays_148 rfl ps_148 kd_148 (by decide) h.1.1 h.1.2 ?_
            have h := h.2
            refine zr_iload_n (pc' := 150) (i := 3) dX12_lays_149 rfl rfl rfl ?_
            refine zn_callV (pc' := 153) (args := [.inl l1, .inl (M 148 l2.toNat), .inl l3]) (st := []) (st' := fun r13 => [.inl r13]) dX12_lays_150 rfl cv_X12_483 ⟨rfl, rfl, by decide, by decide⟩ rfl ps_102 kd_102 rfl rfl (Nat.le_of_ble_eq_true rfl) (fun _ => rfl) h ?_
            intro r13 M14 h
            refine zr_if_eq (tgt := 202) (pc' := 156) dX12_lays_153 rfl rfl h.1 (fun hc => ?_) (fun hc => ?_)
            · have h := h.2.1 hc
              refine zr_iconst (pc' := 203) dX12_lays_202 rfl ?_
              refine zr_istore (pc' := 205) (al' := [(5, .inl 0), (4, .inl (l3 + (M 150 l2.toNat))), (0, .inr (.inr 102)), (1, .inl l1), (2, .inl l2), (3, .inl l3)]) dX12_lays_203 rfl (by decide) rfl ?_
              refine zr_iload (pc' := 207) dX12_lays_205 rfl rfl ?_
              refine zr_if_eq (tgt := 243) (pc' := 210) dX12_lays_207 rfl rfl (zRd rfl) (fun _ => ?_) (fun hc => absurd hc (by decide))
              refine zr_iinc (pc' := 246) (al' := [(3, .inl (l3 + 1)), (5, .inl 0), (4, .inl (l3 + (M 150 l2.toNat))), (0, .inr (.inr 102)), (1, .inl l1), (2, .inl l2)]) dX12_lays_243 rfl rfl (by decide) rfl ?_
              refine zr_goto (pc' := 105) dX12_lays_246 rfl ?_
              obtain ⟨n', hn, h⟩ := h
              exact zn_al ((ih n' hn).2.2 _ _ _ _ h) ⟨rfl, rfl, rfl, rfl, trivial⟩
            · have h := h.2.2 hc
              refine zr_aload_n (pc' := 157) (i := 0) dX12_lays_156 rfl rfl rfl ?_
              refine zr_iload_n (pc' := 158) (i := 1) dX12_lays_157 rfl rfl rfl ?_
              refine zr_aload_n (pc' := 159) (i := 0) dX12_lays_158 rfl rfl rfl ?_
              refine zr_get (pc' := 162) dX12_lays_159 rfl ps_102 kd_102 fl_X12_160 kc_12 (gv_102_78 _) ?_
              refine zr_iload_n (pc' := 163) (i := 2) dX12_lays_162 rfl rfl rfl ?_
              refine zr_iald (pc' := 164) dX12_lays_163 rfl ps_149 kd_149 (by decide) h.1.1 h.1.2 ?_
              have h := h.2
              refine zr_iload (pc' := 166) dX12_lays_164 rfl rfl ?_
              refine zn_callV (pc' := 169) (args := [.inl l1, .inl (M14 149 l2.toNat), .inl (l3 + (M 150 l2.toNat))]) (st := []) (st' := fun r15 => [.inl r15]) dX12_lays_166 rfl cv_X12_483 ⟨rfl, rfl, by decide, by decide⟩ rfl ps_102 kd_102 rfl rfl (Nat.le_of_ble_eq_true rfl) (fun _ => rfl) h ?_
              intro r15 M16 h
              refine zr_if_eq (tgt := 202) (pc' := 172) dX12_lays_169 rfl rfl h.1 (fun hc => ?_) (fun hc => ?_)
              · have h := h.2.1 hc
                refine zr_iconst (pc' := 203) dX12_lays_202 rfl ?_
                refine zr_istore (pc' := 205) (al' := [(5, .inl 0), (4, .inl (l3 + (M 150 l2.toNat))), (0, .inr (.inr 102)), (1, .inl l1), (2, .inl l2), (3, .inl l3)]) dX12_lays_203 rfl (by decide) rfl ?_
                refine zr_iload (pc' := 207) dX12_lays_205 rfl rfl ?_
                refine zr_if_eq (tgt := 243) (pc' := 210) dX12_lays_207 rfl rfl (zRd rfl) (fun _ => ?_) (fun hc => absurd hc (by decide))
                refine zr_iinc (pc' := 246) (al' := [(3, .inl (l3 + 1)), (5, .inl 0), (4, .inl (l3 + (M 150 l2.toNat))), (0, .inr (.inr 102)), (1, .inl l1), (2, .inl l2)]) dX12_lays_243 rfl rfl (by decide) rfl ?_
                refine zr_goto (pc' := 105) dX12_lays_246 rfl ?_
                obtain ⟨n', hn, h⟩ := h
                exact zn_al ((ih n' hn).2.2 _ _ _ _ h) ⟨rfl, rfl, rfl, rfl, trivial⟩
              · have h := h.2.2 hc
                refine zr_aload_n (pc' := 173) (i := 0) dX12_lays_172 rfl rfl rfl ?_
                refine zr_get (pc' := 176) dX12_lays_173 rfl ps_102 kd_102 fl_X12_172 kc_12 (gv_102_82 _) ?_
                refine zr_iload_n (pc' := 177) (i := 2) dX12_lays_176 rfl rfl rfl ?_
                refine zr_iald (pc' := 178) dX12_lays_177 rfl ps_153 kd_153 (by decide) h.1.1 h.1.2 ?_
                have h := h.2
                refine zr_iconst (pc' := 179) dX12_lays_178 rfl ?_
                refine zr_icmp_eq (tgt := 198) (pc' := 182) dX12_lays_179 rfl rfl h.1 (zRd rfl) (fun hc => ?_) (fun hc => ?_)
                · have h := h.2.1 hc
                  refine zr_iconst (pc' := 199) dX12_lays_198 rfl ?_
                  refine zr_goto (pc' := 203) dX12_lays_199 rfl ?_
                  refine zr_istore (pc' := 205) (al' := [(5, .inl 1), (4, .inl (l3 + (M 150 l2.toNat))), (0, .inr (.inr 102)), (1, .inl l1), (2, .inl l2), (3, .inl l3)]) dX12_lays_203 rfl (by decide) rfl ?_
                  refine zr_iload (pc' := 207) dX12_lays_205 rfl rfl ?_
                  refine zr_if_eq (tgt := 243) (pc' := 210) dX12_lays_207 rfl rfl (zRd rfl) (fun hc => absurd hc (by decide)) (fun _ => ?_)
                  refine zr_aload_n (pc' := 211) (i := 0) dX12_lays_210 rfl rfl rfl ?_
                  refine zr_aload_n (pc' := 212) (i := 0) dX12_lays_211 rfl rfl rfl ?_
                  refine zr_aload_n (pc' := 213) (i := 0) dX12_lays_212 rfl rfl rfl ?_
                  refine zr_get (pc' := 216) dX12_lays_213 rfl ps_102 kd_102 fl_X12_157 kc_12 (gv_102_77 _) ?_
                  refine zr_iload_n (pc' := 217) (i := 2) dX12_lays_216 rfl rfl rfl ?_
                  refine zr_iald (pc' := 218) dX12_lays_217 rfl ps_148 kd_148 (by decide) h.1.1 h.1.2 ?_
                  have h := h.2
                  refine zr_iload_n (pc' := 219) (i := 3) dX12_lays_218 rfl rfl rfl ?_
                  refine zn_callV (pc' := 222) (args := [.inl (M16 148 l2.toNat), .inl l3]) (st := [.inr (.inr 102)]) (st' := fun r17 => [.inl r17, .inr (.inr 102)]) dX12_lays_219 rfl cv_X12_486 ⟨rfl, rfl, by decide, by decide⟩ rfl ps_102 kd_102 rfl rfl (Nat.le_of_ble_eq_true rfl) (fun _ => rfl) h ?_
                  intro r17 M18 h
                  refine zr_aload_n (pc' := 223) (i := 0) dX12_lays_222 rfl rfl rfl ?_
                  refine zr_aload_n (pc' := 224) (i := 0) dX12_lays_223 rfl rfl rfl ?_
                  refine zr_get (pc' := 227) dX12_lays_224 rfl ps_102 kd_102 fl_X12_160 kc_12 (gv_102_78 _) ?_
                  refine zr_iload_n (pc' := 228) (i := 2) dX12_lays_227 rfl rfl rfl ?_
                  refine zr_iald (pc' := 229) dX12_lays_228 rfl ps_149 kd_149 (by decide) h.1.1 h.1.2 ?_
                  have h := h.2
                  refine zr_iload (pc' := 231) dX12_lays_229 rfl rfl ?_
                  refine zn_callV (pc' := 234) (args := [.inl (M18 149 l2.toNat), .inl (l3 + (M 150 l2.toNat))]) (st := [.inl r17, .inr (.inr 102)]) (st' := fun r19 => [.inl r19, .inl r17, .inr (.inr 102)]) dX12_lays_231 rfl cv_X12_486 ⟨rfl, rfl, by decide, by decide⟩ rfl ps_102 kd_102 rfl rfl (Nat.le_of_ble_eq_true rfl) (fun _ => rfl) h ?_
                  intro r19 M20 h
                  refine zr_aload_n (pc' := 235) (i := 0) dX12_lays_234 rfl rfl rfl ?_
                  refine zr_get (pc' := 238) dX12_lays_235 rfl ps_102 kd_102 fl_X12_166 kc_12 (gv_102_80 _) ?_
                  refine zr_iload_n (pc' := 239) (i := 2) dX12_lays_238 rfl rfl rfl ?_
                  refine zr_iald (pc' := 240) dX12_lays_239 rfl ps_151 kd_151 (by decide) h.1.1 h.1.2 ?_
                  have h := h.2
                  refine zn_callV (pc' := 243) (args := [.inl r17, .inl r19, .inl (M20 151 l2.toNat)]) (st := []) (st' := fun _ => []) dX12_lays_240 rfl cv_X12_489 ⟨rfl, rfl, by decide, by decide⟩ rfl ps_102 kd_102 rfl rfl (Nat.le_of_ble_eq_true rfl) (fun _ => rfl) h ?_
                  intro r21 M22 h
                  refine zr_iinc (pc' := 246) (al' := [(3, .inl (l3 + 1)), (5, .inl 1), (4, .inl (l3 + (M 150 l2.toNat))), (0, .inr (.inr 102)), (1, .inl l1), (2, .inl l2)]) dX12_lays_243 rfl rfl (by decide) rfl ?_
                  refine zr_goto (pc' := 105) dX12_lays_246 rfl ?_
                  obtain ⟨n', hn, h⟩ := h
                  exact zn_al ((ih n' hn).2.2 _ _ _ _ h) ⟨rfl, rfl, rfl, rfl, trivial⟩
                · have h := h.2.2 hc
                  refine zr_aload_n (pc' := 183) (i := 0) dX12_lays_182 rfl rfl rfl ?_
                  refine zr_iload_n (pc' := 184) (i := 1) dX12_lays_183 rfl rfl rfl ?_
                  refine zr_aload_n (pc' := 185) (i := 0) dX12_lays_184 rfl rfl rfl ?_
                  refine zr_get (pc' := 188) dX12_lays_185 rfl ps_102 kd_102 fl_X12_172 kc_12 (gv_102_82 _) ?_
                  refine zr_iload_n (pc' := 189) (i := 2) dX12_lays_188 rfl rfl rfl ?_
                  refine zr_iald (pc' := 190) dX12_lays_189 rfl ps_153 kd_153 (by decide) h.1.1 h.1.2 ?_
                  have h := h.2
                  refine zn_callV (pc' := 193) (args := [.inl l1, .inl (M16 153 l2.toNat)]) (st := []) (st' := fun r23 => [.inl r23]) dX12_lays_190 rfl cv_X12_468 ⟨rfl, rfl, by decide, by decide⟩ rfl ps_102 kd_102 rfl rfl (Nat.le_of_ble_eq_true rfl) (fun _ => rfl) h ?_
                  intro r23 M24 h
                  refine zr_iload (pc' := 195) dX12_lays_193 rfl rfl ?_
                  refine zr_icmp_le (tgt := 202) (pc' := 198) dX12_lays_195 rfl rfl h.1.1 h.1.2 (fun hc => ?_) (fun hc => ?_)
                  · have h := h.2.1 hc
                    refine zr_iconst (pc' := 203) dX12_lays_202 rfl ?_
                    refine zr_istore (pc' := 205) (al' := [(5, .inl 0), (4, .inl (l3 + (M 150 l2.toNat))), (0, .inr (.inr 102)), (1, .inl l1), (2, .inl l2), (3, .inl l3)]) dX12_lays_203 rfl (by decide) rfl ?_
                    refine zr_iload (pc' := 207) dX12_lays_205 rfl rfl ?_
                    refine zr_if_eq (tgt := 243) (pc' := 210) dX12_lays_207 rfl rfl (zRd rfl) (fun _ => ?_) (fun hc => absurd hc (by decide))
                    refine zr_iinc (pc' := 246) (al' := [(3, .inl (l3 + 1)), (5, .inl 0), (4, .inl (l3 + (M 150 l2.toNat))), (0, .inr (.inr 102)), (1, .inl l1), (2, .inl l2)]) dX12_lays_243 rfl rfl (by decide) rfl ?_
                    refine zr_goto (pc' := 105) dX12_lays_246 rfl ?_
                    obtain ⟨n', hn, h⟩ := h
                    exact zn_al ((ih n' hn).2.2 _ _ _ _ h) ⟨rfl, rfl, rfl, rfl, trivial⟩
                  · have h := h.2.2 hc
                    refine zr_iconst (pc' := 199) dX12_lays_198 rfl ?_
                    refine zr_goto (pc' := 203) dX12_lays_199 rfl ?_
                    refine zr_istore (pc' := 205) (al' := [(5, .inl 1), (4, .inl (l3 + (M 150 l2.toNat))), (0, .inr (.inr 102)), (1, .inl l1), (2, .inl l2), (3, .inl l3)]) dX12_lays_203 rfl (by decide) rfl ?_
                    refine zr_iload (pc' := 207) dX12_lays_205 rfl rfl ?_
                    refine zr_if_eq (tgt := 243) (pc' := 210) dX12_lays_207 rfl rfl (zRd rfl) (fun hc => absurd hc (by decide)) (fun _ => ?_)
                    refine zr_aload_n (pc' := 211) (i := 0) dX12_lays_210 rfl rfl rfl ?_
                    refine zr_aload_n (pc' := 212) (i := 0) dX12_lays_211 rfl rfl rfl ?_
                    refine zr_aload_n (pc' := 213) (i := 0) dX12_lays_212 rfl rfl rfl ?_
                    refine zr_get (pc' := 216) dX12_lays_213 rfl ps_102 kd_102 fl_X12_157 kc_12 (gv_102_77 _) ?_
                    refine zr_iload_n (pc' := 217) (i := 2) dX12_lays_216 rfl rfl rfl ?_
                    refine zr_iald (pc' := 218) dX12_lays_217 rfl ps_148 kd_148 (by decide) h.1.1 h.1.2 ?_
                    have h := h.2
                    refine zr_iload_n (pc' := 219) (i := 3) dX12_lays_218 rfl rfl rfl ?_
                    refine zn_callV (pc' := 222) (args := [.inl (M24 148 l2.toNat), .inl l3]) (st := [.inr (.inr 102)]) (st' := fun r25 => [.inl r25, .inr (.inr 102)]) dX12_lays_219 rfl cv_X12_486 ⟨rfl, rfl, by decide, by decide⟩ rfl ps_102 kd_102 rfl rfl (Nat.le_of_ble_eq_true rfl) (fun _ => rfl) h ?_
                    intro r25 M26 h
                    refine zr_aload_n (pc' := 223) (i := 0) dX12_lays_222 rfl rfl rfl ?_
                    refine zr_aload_n (pc' := 224) (i := 0) dX12_lays_223 rfl rfl rfl ?_
                    refine zr_get (pc' := 227) dX12_lays_224 rfl ps_102 kd_102 fl_X12_160 kc_12 (gv_102_78 _) ?_
                    refine zr_iload_n (pc' := 228) (i := 2) dX12_lays_227 rfl rfl rfl ?_
                    refine zr_iald (pc' := 229) dX12_lays_228 rfl ps_149 kd_149 (by decide) h.1.1 h.1.2 ?_
                    have h := h.2
                    refine zr_iload (pc' := 231) dX12_lays_229 rfl rfl ?_
                    refine zn_callV (pc' := 234) (args := [.inl (M26 149 l2.toNat), .inl (l3 + (M 150 l2.toNat))]) (st := [.inl r25, .inr (.inr 102)]) (st' := fun r27 => [.inl r27, .inl r25, .inr (.inr 102)]) dX12_lays_231 rfl cv_X12_486 ⟨rfl, rfl, by decide, by decide⟩ rfl ps_102 kd_102 rfl rfl (Nat.le_of_ble_eq_true rfl) (fun _ => rfl) h ?_
                    intro r27 M28 h
                    refine zr_aload_n (pc' := 235) (i := 0) dX12_lays_234 rfl rfl rfl ?_
                    refine zr_get (pc' := 238) dX12_lays_235 rfl ps_102 kd_102 fl_X12_166 kc_12 (gv_102_80 _) ?_
                    refine zr_iload_n (pc' := 239) (i := 2) dX12_lays_238 rfl rfl rfl ?_
                    refine zr_iald (pc' := 240) dX12_lays_239 rfl ps_151 kd_151 (by decide) h.1.1 h.1.2 ?_
                    have h := h.2
                    refine zn_callV (pc' := 243) (args := [.inl r25, .inl r27, .inl (M28 151 l2.toNat)]) (st := []) (st' := fun _ => []) dX12_lays_240 rfl cv_X12_489 ⟨rfl, rfl, by decide, by decide⟩ rfl ps_102 kd_102 rfl rfl (Nat.le_of_ble_eq_true rfl) (fun _ => rfl) h ?_
                    intro r29 M30 h
                    refine zr_iinc (pc' := 246) (al' := [(3, .inl (l3 + 1)), (5, .inl 1), (4, .inl (l3 + (M 150 l2.toNat))), (0, .inr (.inr 102)), (1, .inl l1), (2, .inl l2)]) dX12_lays_243 rfl rfl (by decide) rfl ?_
                    refine zr_goto (pc' := 105) dX12_lays_246 rfl ?_
                    obtain ⟨n', hn, h⟩ := h
                    exact zn_al ((ih n' hn).2.2 _ _ _ _ h) ⟨rfl, rfl, rfl, rfl, trivial⟩
  refine zP_of (by decide +kernel) rfl (Nat.le_of_ble_eq_true rfl) ?_
  show zA E zNN (0, 0) mX12_lays 0 [(0, .inr (.inr 102)), (1, .inl l1)] [] M (zQ Q)
  refine zr_aload_n (pc' := 1) (i := 0) dX12_lays_0 rfl rfl rfl ?_
  refine zr_aload_n (pc' := 2) (i := 0) dX12_lays_1 rfl rfl rfl ?_
  refine zr_get (pc' := 5) dX12_lays_2 rfl ps_102 kd_102 fl_X12_109 kc_12 (gv_102_59 _) ?_
  refine zr_iload_n (pc' := 6) (i := 1) dX12_lays_5 rfl rfl rfl ?_
  refine zr_iald (pc' := 7) dX12_lays_6 rfl ps_132 kd_132 (by decide) h.1.1 h.1.2 ?_
  have h := h.2
  refine zr_bipush (pc' := 9) dX12_lays_7 rfl rfl ?_
  refine zr_icmp_ge (tgt := 16) (pc' := 12) dX12_lays_9 rfl rfl h.1 (zRd rfl) (fun hc => ?_) (fun hc => ?_)
  · have h := h.2.1 hc
    refine zr_aload_n (pc' := 17) (i := 0) dX12_lays_16 rfl rfl rfl ?_
    refine zr_get (pc' := 20) dX12_lays_17 rfl ps_102 kd_102 fl_X12_109 kc_12 (gv_102_59 _) ?_
    refine zr_iload_n (pc' := 21) (i := 1) dX12_lays_20 rfl rfl rfl ?_
    refine zr_iald (pc' := 22) dX12_lays_21 rfl ps_132 kd_132 (by decide) h.1.1 h.1.2 ?_
    have h := h.2
    refine zr_bipush (pc' := 24) dX12_lays_22 rfl rfl ?_
    refine zr_isub (pc' := 25) dX12_lays_24 rfl ?_
    refine zr_put (pc' := 28) dX12_lays_25 rfl ps_102 kd_102 fl_X12_464 kc_12 rfl nf_102_92 rfl trivial (fun M1 hM1 => ?_)
    have h := h M1 hM1
    refine zr_aload_n (pc' := 29) (i := 0) dX12_lays_28 rfl rfl rfl ?_
    refine zr_aload_n (pc' := 30) (i := 0) dX12_lays_29 rfl rfl rfl ?_
    refine zr_get (pc' := 33) dX12_lays_30 rfl ps_102 kd_102 fl_X12_109 kc_12 (gv_102_59 _) ?_
    refine zr_iload_n (pc' := 34) (i := 1) dX12_lays_33 rfl rfl rfl ?_
    refine zr_iald (pc' := 35) dX12_lays_34 rfl ps_132 kd_132 (by decide) h.1.1 h.1.2 ?_
    have h := h.2
    refine zr_bipush (pc' := 37) dX12_lays_35 rfl rfl ?_
    refine zr_iadd (pc' := 38) dX12_lays_37 rfl ?_
    refine zr_put (pc' := 41) dX12_lays_38 rfl ps_102 kd_102 fl_X12_471 kc_12 rfl nf_102_93 rfl trivial (fun M2 hM1 => ?_)
    have h := h M2 hM1
    refine zr_aload_n (pc' := 42) (i := 0) dX12_lays_41 rfl rfl rfl ?_
    refine zr_iconst (pc' := 43) dX12_lays_42 rfl ?_
    refine zr_put (pc' := 46) dX12_lays_43 rfl ps_102 kd_102 fl_X12_461 kc_12 rfl nf_102_85 rfl trivial (fun M3 hM1 => ?_)
    have h := h M3 hM1
    refine zr_aload_n (pc' := 47) (i := 0) dX12_lays_46 rfl rfl rfl ?_
    refine zr_iconst (pc' := 48) dX12_lays_47 rfl ?_
    refine zr_put (pc' := 51) dX12_lays_48 rfl ps_102 kd_102 fl_X12_474 kc_12 rfl nf_102_94 rfl trivial (fun M4 hM1 => ?_)
    have h := h M4 hM1
    refine zr_iconst (pc' := 52) dX12_lays_51 rfl ?_
    refine zr_istore_n (pc' := 53) (i := 2) (al' := [(2, .inl 0), (0, .inr (.inr 102)), (1, .inl l1)]) dX12_lays_52 rfl rfl (by decide) rfl ?_
    obtain ⟨n', h⟩ := h
    exact zn_al ((key n').1 _ _ _ h) ⟨rfl, rfl, rfl, trivial⟩
  · have h := h.2.2 hc
    refine zr_iconst (pc' := 13) dX12_lays_12 rfl ?_
    refine zr_goto (pc' := 25) dX12_lays_13 rfl ?_
    refine zr_put (pc' := 28) dX12_lays_25 rfl ps_102 kd_102 fl_X12_464 kc_12 rfl nf_102_92 rfl trivial (fun M5 hM1 => ?_)
    have h := h M5 hM1
    refine zr_aload_n (pc' := 29) (i := 0) dX12_lays_28 rfl rfl rfl ?_
    refine zr_aload_n (pc' := 30) (i := 0) dX12_lays_29 rfl rfl rfl ?_
    refine zr_get (pc' := 33) dX12_lays_30 rfl ps_102 kd_102 fl_X12_109 kc_12 (gv_102_59 _) ?_
    refine zr_iload_n (pc' := 34) (i := 1) dX12_lays_33 rfl rfl rfl ?_
    refine zr_iald (pc' := 35) dX12_lays_34 rfl ps_132 kd_132 (by decide) h.1.1 h.1.2 ?_
    have h := h.2
    refine zr_bipush (pc' := 37) dX12_lays_35 rfl rfl ?_
    refine zr_iadd (pc' := 38) dX12_lays_37 rfl ?_
    refine zr_put (pc' := 41) dX12_lays_38 rfl ps_102 kd_102 fl_X12_471 kc_12 rfl nf_102_93 rfl trivial (fun M6 hM1 => ?_)
    have h := h M6 hM1
    refine zr_aload_n (pc' := 42) (i := 0) dX12_lays_41 rfl rfl rfl ?_
    refine zr_iconst (pc' := 43) dX12_lays_42 rfl ?_
    refine zr_put (pc' := 46) dX12_lays_43 rfl ps_102 kd_102 fl_X12_461 kc_12 rfl nf_102_85 rfl trivial (fun M7 hM1 => ?_)
    have h := h M7 hM1
    refine zr_aload_n (pc' := 47) (i := 0) dX12_lays_46 rfl rfl rfl ?_
    refine zr_iconst (pc' := 48) dX12_lays_47 rfl ?_
    refine zr_put (pc' := 51) dX12_lays_48 rfl ps_102 kd_102 fl_X12_474 kc_12 rfl nf_102_94 rfl trivial (fun M8 hM1 => ?_)
    have h := h M8 hM1
    refine zr_iconst (pc' := 52) dX12_lays_51 rfl ?_
    refine zr_istore_n (pc' := 53) (i := 2) (al' := [(2, .inl 0), (0, .inr (.inr 102)), (1, .inl l1)]) dX12_lays_52 rfl rfl (by decide) rfl ?_
    obtain ⟨n', h⟩ := h
    exact zn_al ((key n').1 _ _ _ h) ⟨rfl, rfl, rfl, trivial⟩
set_option maxRecDepth 20000 in
theorem vcX12_laysTown {E : zE} {M : zM} {Q : Int → zM → Prop} (l1 l2 : Int) (I5 : Nat → Int → Int → Int → zM → Prop)
    (h : ∃ n', I5 n' l1 l2 (M 102 92) M)
    (h5 : ∀ (n : Nat) (l1 l2 l3 : Int) (M : zM), I5 n l1 l2 l3 M → ((zR l3 ∧ zR (M 102 93)) ∧ (((M 102 93) ≤ l3 → (zP E mX12_isOpen [.inr (.inr 102), .inl l1, .inl l2, .inl (M 102 93)] M (fun r1 M2 => ((zR r1) ∧ ((r1 = 0 → (zP E mX12_warnedAt [.inr (.inr 102), .inl l2] M2 (fun r3 M4 => ((zR r3) ∧ ((r3 = (-1) → (zP E mX12_isOpen [.inr (.inr 102), .inl l1, .inl l2, .inl (M4 102 93)] M4 (fun r5 M6 => ((zR r5) ∧ ((r5 = 0 → (∀ M7, M7 = zup M6 102 94 ((M4 102 94) + 0) → Q 0 M7)) ∧ (¬ r5 = 0 → (0 ≤ l2 ∧ l2 < 8) ∧ (∀ M8, M8 = zup M6 102 94 ((M4 102 94) + (M6 144 l2.toNat)) → Q 0 M8))))))) ∧ (¬ r3 = (-1) → ((zR r3 ∧ zR (M4 102 93)) ∧ ((r3 ≤ (M4 102 93) → ((zR r3 ∧ zR (M4 102 92)) ∧ (((M4 102 92) ≤ r3 → (zP E mX12_isOpen [.inr (.inr 102), .inl l1, .inl l2, .inl r3] M4 (fun r9 M10 => ((zR r9) ∧ ((r9 = 0 → Q 0 M10) ∧ (¬ r9 = 0 → (zP E mX12_nodeOf [.inr (.inr 102), .inl l2, .inl r3] M10 (fun r11 M12 => (0 ≤ l2 ∧ l2 < 8) ∧ (zP E mX12_arc [.inr (.inr 102), .inl 400, .inl r11, .inl (M12 144 l2.toNat)] M12 (fun r13 M14 => Q 0 M14)))))))))) ∧ (r3 < (M4 102 92) → (zP E mX12_isOpen [.inr (.inr 102), .inl l1, .inl l2, .inl (M4 102 92)] M4 (fun r15 M16 => ((zR r15) ∧ ((r15 = 0 → Q 0 M16) ∧ (¬ r15 = 0 → (zP E mX12_nodeOf [.inr (.inr 102), .inl l2, .inl (M4 102 92)] M16 (fun r17 M18 => (0 ≤ l2 ∧ l2 < 8) ∧ (zP E mX12_arc [.inr (.inr 102), .inl 400, .inl r17, .inl (M18 144 l2.toNat)] M18 (fun r19 M20 => Q 0 M20))))))))))))) ∧ ((M4 102 93) < r3 → (zP E mX12_isOpen [.inr (.inr 102), .inl l1, .inl l2, .inl (M4 102 93)] M4 (fun r21 M22 => ((zR r21) ∧ ((r21 = 0 → (∀ M23, M23 = zup M22 102 94 ((M4 102 94) + 0) → Q 0 M23)) ∧ (¬ r21 = 0 → (0 ≤ l2 ∧ l2 < 8) ∧ (∀ M24, M24 = zup M22 102 94 ((M4 102 94) + (M22 144 l2.toNat)) → Q 0 M24))))))))))))))) ∧ (¬ r1 = 0 → (zP E mX12_nodeOf [.inr (.inr 102), .inl l2, .inl (M2 102 93)] M2 (fun r25 M26 => (zP E mX12_arc [.inr (.inr 102), .inl r25, .inl 401, .inl 1000000] M26 (fun r27 M28 => (zP E mX12_warnedAt [.inr (.inr 102), .inl l2] M28 (fun r29 M30 => ((zR r29) ∧ ((r29 = (-1) → (zP E mX12_isOpen [.inr (.inr 102), .inl l1, .inl l2, .inl (M30 102 93)] M30 (fun r31 M32 => ((zR r31) ∧ ((r31 = 0 → (∀ M33, M33 = zup M32 102 94 ((M30 102 94) + 0) → Q 0 M33)) ∧ (¬ r31 = 0 → (0 ≤ l2 ∧ l2 < 8) ∧ (∀ M34, M34 = zup M32 102 94 ((M30 102 94) + (M32 144 l2.toNat)) → Q 0 M34))))))) ∧ (¬ r29 = (-1) → ((zR r29 ∧ zR (M30 102 93)) ∧ ((r29 ≤ (M30 102 93) → ((zR r29 ∧ zR (M30 102 92)) ∧ (((M30 102 92) ≤ r29 → (zP E mX12_isOpen [.inr (.inr 102), .inl l1, .inl l2, .inl r29] M30 (fun r35 M36 => ((zR r35) ∧ ((r35 = 0 → Q 0 M36) ∧ (¬ r35 = 0 → (zP E mX12_nodeOf [.inr (.inr 102), .inl l2, .inl r29] M36 (fun r37 M38 => (0 ≤ l2 ∧ l2 < 8) ∧ (zP E mX12_arc [.inr (.inr 102), .inl 400, .inl r37, .inl (M38 144 l2.toNat)] M38 (fun r39 M40 => Q 0 M40)))))))))) ∧ (r29 < (M30 102 92) → (zP E mX12_isOpen [.inr (.inr 102), .inl l1, .inl l2, .inl (M30 102 92)] M30 (fun r41 M42 => ((zR r41) ∧ ((r41 = 0 → Q 0 M42) ∧ (¬ r41 = 0 → (zP E mX12_nodeOf [.inr (.inr 102), .inl l2, .inl (M30 102 92)] M42 (fun r43 M44 => (0 ≤ l2 ∧ l2 < 8) ∧ (zP E mX12_arc [.inr (.inr 102), .inl 400, .inl r43, .inl (M44 144 l2.toNat)] M44 (fun r45 M46 => Q 0 M46))))))))))))) ∧ ((M30 102 93) < r29 → (zP E mX12_isOpen [.inr (.inr 102), .inl l1, .inl l2, .inl (M30 102 93)] M30 (fun r47 M48 => ((zR r47) ∧ ((r47 = 0 → (∀ M49, M49 = zup M48 102 94 ((M30 102 94) + 0) → Q 0 M49)) ∧ (¬ r47 = 0 → (0 ≤ l2 ∧ l2 < 8) ∧ (∀ M50, M50 = zup M48 102 94 ((M30 102 94) + (M48 144 l2.toNat)) → Q 0 M50)))))))))))))))))))))))) ∧ (l3 < (M 102 93) → (zP E mX12_isOpen [.inr (.inr 102), .inl l1, .inl l2, .inl (l3 + 1)] M (fun r51 M52 => ((zR r51) ∧ ((r51 = 0 → ∃ n', n' < n ∧ I5 n' l1 l2 (l3 + 1) M52) ∧ (¬ r51 = 0 → (zP E mX12_nodeOf [.inr (.inr 102), .inl l2, .inl l3] M52 (fun r53 M54 => (zP E mX12_nodeOf [.inr (.inr 102), .inl l2, .inl (l3 + 1)] M54 (fun r55 M56 => (zP E mX12_arc [.inr (.inr 102), .inl r53, .inl r55, .inl 1000000] M56 (fun r57 M58 => ∃ n', n' < n ∧ I5 n' l1 l2 (l3 + 1) M58)))))))))))))))
    : zP E mX12_laysTown [.inr (.inr 102), .inl l1, .inl l2] M Q := by
  have key : ∀ n : Nat, (∀ (l1 l2 l3 : Int) (M : zM), I5 n l1 l2 l3 M → zA E zNN (0, 0) mX12_laysTown 5 [(0, .inr (.inr 102)), (1, .inl l1), (2, .inl l2), (3, .inl l3)] [] M (zQ Q)) := by
    intro n
    induction n using Nat.strongRecOn with
    | ind n ih =>
      intro l1 l2 l3 M h
      have h := h5 n l1 l2 l3 M h
      refine zr_iload_n (pc' := 6) (i := 3) dX12_laysTown_5 rfl rfl rfl ?_
      refine zr_aload_n (pc' := 7) (i := 0) dX12_laysTown_6 rfl rfl rfl ?_
      refine zr_get (pc' := 10) dX12_laysTown_7 rfl ps_102 kd_102 fl_X12_471 kc_12 (gv_102_93 _) ?_
      refine zr_icmp_ge (tgt := 52) (pc' := 13) dX12_laysTown_10 rfl rfl h.1.1 h.1.2 (fun hc => ?_) (fun hc => ?_)
      · have h := h.2.1 hc
        refine zr_aload_n (pc' := 53) (i := 0) dX12_laysTown_52 rfl rfl rfl ?_
        refine zr_iload_n (pc' := 54) (i := 1) dX12_laysTown_53 rfl rfl rfl ?_
        refine zr_iload_n (pc' := 55) (i := 2) dX12_laysTown_54 rfl rfl rfl ?_
        refine zr_aload_n (pc' := 56) (i := 0) dX12_laysTown_55 rfl rfl rfl ?_
        refine zr_get (pc' := 59) dX12_laysTown_56 rfl ps_102 kd_102 fl_X12_471 kc_12 (gv_102_93 _) ?_
        refine zn_callV (pc' := 62) (args := [.inl l1, .inl l2, .inl (M 102 93)]) (st := []) (st' := fun r1 => [.inl r1]) dX12_laysTown_59 rfl cv_X12_483 ⟨rfl, rfl, by decide, by decide⟩ rfl ps_102 kd_102 rfl rfl (Nat.le_of_ble_eq_true rfl) (fun _ => rfl) h ?_
        intro r1 M2 h
        refine zr_if_eq (tgt := 84) (pc' := 65) dX12_laysTown_62 rfl rfl h.1 (fun hc => ?_) (fun hc => ?_)
        · have h := h.2.1 hc
          refine zr_aload_n (pc' := 85) (i := 0) dX12_laysTown_84 rfl rfl rfl ?_
          refine zr_iload_n (pc' := 86) (i := 2) dX12_laysTown_85 rfl rfl rfl ?_
          refine zn_callV (pc' := 89) (args := [.inl l2]) (st := []) (st' := fun r3 => [.inl r3]) dX12_laysTown_86 rfl cv_X12_458 ⟨rfl, rfl, by decide, by decide⟩ rfl ps_102 kd_102 rfl rfl (Nat.le_of_ble_eq_true rfl) (fun _ => rfl) h ?_
          intro r3 M4 h
          refine zr_istore_n (pc' := 90) (i := 3) (al' := [(3, .inl r3), (0, .inr (.inr 102)), (1, .inl l1), (2, .inl l2)]) dX12_laysTown_89 rfl rfl (by decide) rfl ?_
          refine zr_iload_n (pc' := 91) (i := 3) dX12_laysTown_90 rfl rfl rfl ?_
          refine zr_iconst (pc' := 92) dX12_laysTown_91 rfl ?_
          refine zr_icmp_eq (tgt := 103) (pc' := 95) dX12_laysTown_92 rfl rfl h.1 (zRd rfl) (fun hc => ?_) (fun hc => ?_)
          · have h := h.2.1 hc
            refine zr_aload_n (pc' := 104) (i := 0) dX12_laysTown_103 rfl rfl rfl ?_
            refine zr_dup (pc' := 105) dX12_laysTown_104 rfl rfl ?_
            refine zr_get (pc' := 108) dX12_laysTown_105 rfl ps_102 kd_102 fl_X12_474 kc_12 (gv_102_94 _) ?_
            refine zr_aload_n (pc' := 109) (i := 0) dX12_laysTown_108 rfl rfl rfl ?_
            refine zr_iload_n (pc' := 110) (i := 1) dX12_laysTown_109 rfl rfl rfl ?_
            refine zr_iload_n (pc' := 111) (i := 2) dX12_laysTown_110 rfl rfl rfl ?_
            refine zr_aload_n (pc' := 112) (i := 0) dX12_laysTown_111 rfl rfl rfl ?_
            refine zr_get (pc' := 115) dX12_laysTown_112 rfl ps_102 kd_102 fl_X12_471 kc_12 (gv_102_93 _) ?_
            refine zn_callV (pc' := 118) (args := [.inl l1, .inl l2, .inl (M4 102 93)]) (st := [.inl (M4 102 94), .inr (.inr 102)]) (st' := fun r5 => [.inl r5, .inl (M4 102 94), .inr (.inr 102)]) dX12_laysTown_115 rfl cv_X12_483 ⟨rfl, rfl, by decide, by decide⟩ rfl ps_102 kd_102 rfl rfl (Nat.le_of_ble_eq_true rfl) (fun _ => rfl) h ?_
            intro r5 M6 h
            refine zr_if_eq (tgt := 130) (pc' := 121) dX12_laysTown_118 rfl rfl h.1 (fun hc => ?_) (fun hc => ?_)
            · have h := h.2.1 hc
              refine zr_iconst (pc' := 131) dX12_laysTown_130 rfl ?_
              refine zr_iadd (pc' := 132) dX12_laysTown_131 rfl ?_
              refine zr_put (pc' := 135) dX12_laysTown_132 rfl ps_102 kd_102 fl_X12_474 kc_12 rfl nf_102_94 rfl trivial (fun M7 hM1 => ?_)
              have h := h M7 hM1
              exact zr_return (x := 0) dX12_laysTown_135 rfl (Nat.le_refl _) (Nat.le_refl _) (And.intro rfl h)
            · have h := h.2.2 hc
              refine zr_aload_n (pc' := 122) (i := 0) dX12_laysTown_121 rfl rfl rfl ?_
              refine zr_get (pc' := 125) dX12_laysTown_122 rfl ps_102 kd_102 fl_X12_145 kc_12 (gv_102_72 _) ?_
              refine zr_iload_n (pc' := 126) (i := 2) dX12_laysTown_125 rfl rfl rfl ?_
              refine zr_iald (pc' := 127) dX12_laysTown_126 rfl ps_144 kd_144 (by decide) h.1.1 h.1.2 ?_
              have h := h.2
              refine zr_goto (pc' := 131) dX12_laysTown_127 rfl ?_
              refine zr_iadd (pc' := 132) dX12_laysTown_131 rfl ?_
              refine zr_put (pc' := 135) dX12_laysTown_132 rfl ps_102 kd_102 fl_X12_474 kc_12 rfl nf_102_94 rfl trivial (fun M8 hM1 => ?_)
              have h := h M8 hM1
              exact zr_return (x := 0) dX12_laysTown_135 rfl (Nat.le_refl _) (Nat.le_refl _) (And.intro rfl h)
          · have h := h.2.2 hc
            refine zr_iload_n (pc' := 96) (i := 3) dX12_laysTown_95 rfl rfl rfl ?_
            refine zr_aload_n (pc' := 97) (i := 0) dX12_laysTown_96 rfl rfl rfl ?_
            refine zr_get (pc' := 100) dX12_laysTown_97 rfl ps_102 kd_102 fl_X12_471 kc_12 (gv_102_93 _) ?_
            refine zr_icmp_le (tgt := 136) (pc' := 103) dX12_laysTown_100 rfl rfl h.1.1 h.1.2 (fun hc => ?_) (fun hc => ?_)
            · have h := h.2.1 hc
              refine zr_iload_n (pc' := 137) (i := 3) dX12_laysTown_136 rfl rfl rfl ?_
              refine zr_aload_n (pc' := 138) (i := 0) dX12_laysTown_137 rfl rfl rfl ?_
              refine zr_get (pc' := 141) dX12_laysTown_138 rfl ps_102 kd_102 fl_X12_464 kc_12 (gv_102_92 _) ?_
              refine zr_icmp_ge (tgt := 149) (pc' := 144) dX12_laysTown_141 rfl rfl h.1.1 h.1.2 (fun hc => ?_) (fun hc => ?_)
              · have h := h.2.1 hc
                refine zr_aload_n (pc' := 150) (i := 0) dX12_laysTown_149 rfl rfl rfl ?_
                refine zr_iload_n (pc' := 151) (i := 1) dX12_laysTown_150 rfl rfl rfl ?_
                refine zr_iload_n (pc' := 152) (i := 2) dX12_laysTown_151 rfl rfl rfl ?_
                refine zr_iload_n (pc' := 153) (i := 3) dX12_laysTown_152 rfl rfl rfl ?_
                refine zn_callV (pc' := 156) (args := [.inl l1, .inl l2, .inl r3]) (st := []) (st' := fun r9 => [.inl r9]) dX12_laysTown_153 rfl cv_X12_483 ⟨rfl, rfl, by decide, by decide⟩ rfl ps_102 kd_102 rfl rfl (Nat.le_of_ble_eq_true rfl) (fun _ => rfl) h ?_
                intro r9 M10 h
                refine zr_if_eq (tgt := 178) (pc' := 159) dX12_laysTown_156 rfl rfl h.1 (fun hc => ?_) (fun hc => ?_)
                · have h := h.2.1 hc
                  exact zr_return (x := 0) dX12_laysTown_178 rfl (Nat.le_refl _) (Nat.le_refl _) (And.intro rfl h)
                · have h := h.2.2 hc
                  refine zr_aload_n (pc' := 160) (i := 0) dX12_laysTown_159 rfl rfl rfl ?_
                  refine zr_sipush (pc' := 163) dX12_laysTown_160 rfl rfl ?_
                  refine zr_aload_n (pc' := 164) (i := 0) dX12_laysTown_163 rfl rfl rfl ?_
                  refine zr_iload_n (pc' := 165) (i := 2) dX12_laysTown_164 rfl rfl rfl ?_
                  refine zr_iload_n (pc' := 166) (i := 3) dX12_laysTown_165 rfl rfl rfl ?_
                  refine zn_callV (pc' := 169) (args := [.inl l2, .inl r3]) (st := [.inl 400, .inr (.inr 102)]) (st' := fun r11 => [.inl r11, .inl 400, .inr (.inr 102)]) dX12_laysTown_166 rfl cv_X12_486 ⟨rfl, rfl, by decide, by decide⟩ rfl ps_102 kd_102 rfl rfl (Nat.le_of_ble_eq_true rfl) (fun _ => rfl) h ?_
                  intro r11 M12 h
                  refine zr_aload_n (pc' := 170) (i := 0) dX12_laysTown_169 rfl rfl rfl ?_
                  refine zr_get (pc' := 173) dX12_laysTown_170 rfl ps_102 kd_102 fl_X12_145 kc_12 (gv_102_72 _) ?_
                  refine zr_iload_n (pc' := 174) (i := 2) dX12_laysTown_173 rfl rfl rfl ?_
                  refine zr_iald (pc' := 175) dX12_laysTown_174 rfl ps_144 kd_144 (by decide) h.1.1 h.1.2 ?_
                  have h := h.2
                  refine zn_callV (pc' := 178) (args := [.inl 400, .inl r11, .inl (M12 144 l2.toNat)]) (st := []) (st' := fun _ => []) dX12_laysTown_175 rfl cv_X12_489 ⟨rfl, rfl, by decide, by decide⟩ rfl ps_102 kd_102 rfl rfl (Nat.le_of_ble_eq_true rfl) (fun _ => rfl) h ?_
                  intro r13 M14 h
                  exact zr_return (x := 0) dX12_laysTown_178 rfl (Nat.le_refl _) (Nat.le_refl _) (And.intro rfl h)
              · have h := h.2.2 hc
                refine zr_aload_n (pc' := 145) (i := 0) dX12_laysTown_144 rfl rfl rfl ?_
                refine zr_get (pc' := 148) dX12_laysTown_145 rfl ps_102 kd_102 fl_X12_464 kc_12 (gv_102_92 _) ?_
                refine zr_istore_n (pc' := 149) (i := 3) (al' := [(3, .inl (M4 102 92)), (0, .inr (.inr 102)), (1, .inl l1), (2, .inl l2)]) dX12_laysTown_148 rfl rfl (by decide) rfl ?_
                refine zr_aload_n (pc' := 150) (i := 0) dX12_laysTown_149 rfl rfl rfl ?_
                refine zr_iload_n (pc' := 151) (i := 1) dX12_laysTown_150 rfl rfl rfl ?_
                refine zr_iload_n (pc' := 152) (i := 2) dX12_laysTown_151 rfl rfl rfl ?_
                refine zr_iload_n (pc' := 153) (i := 3) dX12_laysTown_152 rfl rfl rfl ?_
                refine zn_callV (pc' := 156) (args := [.inl l1, .inl l2, .inl (M4 102 92)]) (st := []) (st' := fun r15 => [.inl r15]) dX12_laysTown_153 rfl cv_X12_483 ⟨rfl, rfl, by decide, by decide⟩ rfl ps_102 kd_102 rfl rfl (Nat.le_of_ble_eq_true rfl) (fun _ => rfl) h ?_
                intro r15 M16 h
                refine zr_if_eq (tgt := 178) (pc' := 159) dX12_laysTown_156 rfl rfl h.1 (fun hc => ?_) (fun hc => ?_)
                · have h := h.2.1 hc
                  exact zr_return (x := 0) dX12_laysTown_178 rfl (Nat.le_refl _) (Nat.le_refl _) (And.intro rfl h)
                · have h := h.2.2 hc
                  refine zr_aload_n (pc' := 160) (i := 0) dX12_laysTown_159 rfl rfl rfl ?_
                  refine zr_sipush (pc' := 163) dX12_laysTown_160 rfl rfl ?_
                  refine zr_aload_n (pc' := 164) (i := 0) dX12_laysTown_163 rfl rfl rfl ?_
                  refine zr_iload_n (pc' := 165) (i := 2) dX12_laysTown_164 rfl rfl rfl ?_
                  refine zr_iload_n (pc' := 166) (i := 3) dX12_laysTown_165 rfl rfl rfl ?_
                  refine zn_callV (pc' := 169) (args := [.inl l2, .inl (M4 102 92)]) (st := [.inl 400, .inr (.inr 102)]) (st' := fun r17 => [.inl r17, .inl 400, .inr (.inr 102)]) dX12_laysTown_166 rfl cv_X12_486 ⟨rfl, rfl, by decide, by decide⟩ rfl ps_102 kd_102 rfl rfl (Nat.le_of_ble_eq_true rfl) (fun _ => rfl) h ?_
                  intro r17 M18 h
                  refine zr_aload_n (pc' := 170) (i := 0) dX12_laysTown_169 rfl rfl rfl ?_
                  refine zr_get (pc' := 173) dX12_laysTown_170 rfl ps_102 kd_102 fl_X12_145 kc_12 (gv_102_72 _) ?_
                  refine zr_iload_n (pc' := 174) (i := 2) dX12_laysTown_173 rfl rfl rfl ?_
                  refine zr_iald (pc' := 175) dX12_laysTown_174 rfl ps_144 kd_144 (by decide) h.1.1 h.1.2 ?_
                  have h := h.2
                  refine zn_callV (pc' := 178) (args := [.inl 400, .inl r17, .inl (M18 144 l2.toNat)]) (st := []) (st' := fun _ => []) dX12_laysTown_175 rfl cv_X12_489 ⟨rfl, rfl, by decide, by decide⟩ rfl ps_102 kd_102 rfl rfl (Nat.le_of_ble_eq_true rfl) (fun _ => rfl) h ?_
                  intro r19 M20 h
                  exact zr_return (x := 0) dX12_laysTown_178 rfl (Nat.le_refl _) (Nat.le_refl _) (And.intro rfl h)
            · have h := h.2.2 hc
              refine zr_aload_n (pc' := 104) (i := 0) dX12_laysTown_103 rfl rfl rfl ?_
              refine zr_dup (pc' := 105) dX12_laysTown_104 rfl rfl ?_
              refine zr_get (pc' := 108) dX12_laysTown_105 rfl ps_102 kd_102 fl_X12_474 kc_12 (gv_102_94 _) ?_
              refine zr_aload_n (pc' := 109) (i := 0) dX12_laysTown_108 rfl rfl rfl ?_
              refine zr_iload_n (pc' := 110) (i := 1) dX12_laysTown_109 rfl rfl rfl ?_
              refine zr_iload_n (pc' := 111) (i := 2) dX12_laysTown_110 rfl rfl rfl ?_
              refine zr_aload_n (pc' := 112) (i := 0) dX12_laysTown_111 rfl rfl rfl ?_
              refine zr_get (pc' := 115) dX12_laysTown_112 rfl ps_102 kd_102 fl_X12_471 kc_12 (gv_102_93 _) ?_
              refine zn_callV (pc' := 118) (args := [.inl l1, .inl l2, .inl (M4 102 93)]) (st := [.inl (M4 102 94), .inr (.inr 102)]) (st' := fun r21 => [.inl r21, .inl (M4 102 94), .inr (.inr 102)]) dX12_laysTown_115 rfl cv_X12_483 ⟨rfl, rfl, by decide, by decide⟩ rfl ps_102 kd_102 rfl rfl (Nat.le_of_ble_eq_true rfl) (fun _ => rfl) h ?_
              intro r21 M22 h
              refine zr_if_eq (tgt := 130) (pc' := 121) dX12_laysTown_118 rfl rfl h.1 (fun hc => ?_) (fun hc => ?_)
              · have h := h.2.1 hc
                refine zr_iconst (pc' := 131) dX12_laysTown_130 rfl ?_
                refine zr_iadd (pc' := 132) dX12_laysTown_131 rfl ?_
                refine zr_put (pc' := 135) dX12_laysTown_132 rfl ps_102 kd_102 fl_X12_474 kc_12 rfl nf_102_94 rfl trivial (fun M23 hM1 => ?_)
                have h := h M23 hM1
                exact zr_return (x := 0) dX12_laysTown_135 rfl (Nat.le_refl _) (Nat.le_refl _) (And.intro rfl h)
              · have h := h.2.2 hc
                refine zr_aload_n (pc' := 122) (i := 0) dX12_laysTown_121 rfl rfl rfl ?_
                refine zr_get (pc' := 125) dX12_laysTown_122 rfl ps_102 kd_102 fl_X12_145 kc_12 (gv_102_72 _) ?_
                refine zr_iload_n (pc' := 126) (i := 2) dX12_laysTown_125 rfl rfl rfl ?_
                refine zr_iald (pc' := 127) dX12_laysTown_126 rfl ps_144 kd_144 (by decide) h.1.1 h.1.2 ?_
                have h := h.2
                refine zr_goto (pc' := 131) dX12_laysTown_127 rfl ?_
                refine zr_iadd (pc' := 132) dX12_laysTown_131 rfl ?_
                refine zr_put (pc' := 135) dX12_laysTown_132 rfl ps_102 kd_102 fl_X12_474 kc_12 rfl nf_102_94 rfl trivial (fun M24 hM1 => ?_)
                have h := h M24 hM1
                exact zr_return (x := 0) dX12_laysTown_135 rfl (Nat.le_refl _) (Nat.le_refl _) (And.intro rfl h)
        · have h := h.2.2 hc
          refine zr_aload_n (pc' := 66) (i := 0) dX12_laysTown_65 rfl rfl rfl ?_
          refine zr_aload_n (pc' := 67) (i := 0) dX12_laysTown_66 rfl rfl rfl ?_
          refine zr_iload_n (pc' := 68) (i := 2) dX12_laysTown_67 rfl rfl rfl ?_
          refine zr_aload_n (pc' := 69) (i := 0) dX12_laysTown_68 rfl rfl rfl ?_
          refine zr_get (pc' := 72) dX12_laysTown_69 rfl ps_102 kd_102 fl_X12_471 kc_12 (gv_102_93 _) ?_
          refine zn_callV (pc' := 75) (args := [.inl l2, .inl (M2 102 93)]) (st := [.inr (.inr 102)]) (st' := fun r25 => [.inl r25, .inr (.inr 102)]) dX12_laysTown_72 rfl cv_X12_486 ⟨rfl, rfl, by decide, by decide⟩ rfl ps_102 kd_102 rfl rfl (Nat.le_of_ble_eq_true rfl) (fun _ => rfl) h ?_
          intro r25 M26 h
          refine zr_sipush (pc' := 78) dX12_laysTown_75 rfl rfl ?_
          refine zr_ldcw (pc' := 81) (x := 1000000) dX12_laysTown_78 rfl ci_X12_467 ?_
          refine zn_callV (pc' := 84) (args := [.inl r25, .inl 401, .inl 1000000]) (st := []) (st' := fun _ => []) dX12_laysTown_81 rfl cv_X12_489 ⟨rfl, rfl, by decide, by decide⟩ rfl ps_102 kd_102 rfl rfl (Nat.le_of_ble_eq_true rfl) (fun _ => rfl) h ?_
          intro r27 M28 h
          refine zr_aload_n (pc' := 85) (i := 0) dX12_laysTown_84 rfl rfl rfl ?_
          refine zr_iload_n (pc' := 86) (i := 2) dX12_laysTown_85 rfl rfl rfl ?_
          refine zn_callV (pc' := 89) (args := [.inl l2]) (st := []) (st' := fun r29 => [.inl r29]) dX12_laysTown_86 rfl cv_X12_458 ⟨rfl, rfl, by decide, by decide⟩ rfl ps_102 kd_102 rfl rfl (Nat.le_of_ble_eq_true rfl) (fun _ => rfl) h ?_
          intro r29 M30 h
          refine zr_istore_n (pc' := 90) (i := 3) (al' := [(3, .inl r29), (0, .inr (.inr 102)), (1, .inl l1), (2, .inl l2)]) dX12_laysTown_89 rfl rfl (by decide) rfl ?_
          refine zr_iload_n (pc' := 91) (i := 3) dX12_laysTown_90 rfl rfl rfl ?_
          refine zr_iconst (pc' := 92) dX12_laysTown_91 rfl ?_
          refine zr_icmp_eq (tgt := 103) (pc' := 95) dX12_laysTown_92 rfl rfl h.1 (zRd rfl) (fun hc => ?_) (fun hc => ?_)
          · have h := h.2.1 hc
            refine zr_aload_n (pc' := 104) (i := 0) dX12_laysTown_103 rfl rfl rfl ?_
            refine zr_dup (pc' := 105) dX12_laysTown_104 rfl rfl ?_
            refine zr_get (pc' := 108) dX12_laysTown_105 rfl ps_102 kd_102 fl_X12_474 kc_12 (gv_102_94 _) ?_
            refine zr_aload_n (pc' := 109) (i := 0) dX12_laysTown_108 rfl rfl rfl ?_
            refine zr_iload_n (pc' := 110) (i := 1) dX12_laysTown_109 rfl rfl rfl ?_
            refine zr_iload_n (pc' := 111) (i := 2) dX12_laysTown_110 rfl rfl rfl ?_
            refine zr_aload_n (pc' := 112) (i := 0) dX12_laysTown_111 rfl rfl rfl ?_
            refine zr_get (pc' := 115) dX12_laysTown_112 rfl ps_102 kd_102 fl_X12_471 kc_12 (gv_102_93 _) ?_
            refine zn_callV (pc' := 118) (args := [.inl l1, .inl l2, .inl (M30 102 93)]) (st := [.inl (M30 102 94), .inr (.inr 102)]) (st' := fun r31 => [.inl r31, .inl (M30 102 94), .inr (.inr 102)]) dX12_laysTown_115 rfl cv_X12_483 ⟨rfl, rfl, by decide, by decide⟩ rfl ps_102 kd_102 rfl rfl (Nat.le_of_ble_eq_true rfl) (fun _ => rfl) h ?_
            intro r31 M32 h
            refine zr_if_eq (tgt := 130) (pc' := 121) dX12_laysTown_118 rfl rfl h.1 (fun hc => ?_) (fun hc => ?_)
            · have h := h.2.1 hc
              refine zr_iconst (pc' := 131) dX12_laysTown_130 rfl ?_
              refine zr_iadd (pc' := 132) dX12_laysTown_131 rfl ?_
              refine zr_put (pc' := 135) dX12_laysTown_132 rfl ps_102 kd_102 fl_X12_474 kc_12 rfl nf_102_94 rfl trivial (fun M33 hM1 => ?_)
              have h := h M33 hM1
              exact zr_return (x := 0) dX12_laysTown_135 rfl (Nat.le_refl _) (Nat.le_refl _) (And.intro rfl h)
            · have h := h.2.2 hc
              refine zr_aload_n (pc' := 122) (i := 0) dX12_laysTown_121 rfl rfl rfl ?_
              refine zr_get (pc' := 125) dX12_laysTown_122 rfl ps_102 kd_102 fl_X12_145 kc_12 (gv_102_72 _) ?_
              refine zr_iload_n (pc' := 126) (i := 2) dX12_laysTown_125 rfl rfl rfl ?_
              refine zr_iald (pc' := 127) dX12_laysTown_126 rfl ps_144 kd_144 (by decide) h.1.1 h.1.2 ?_
              have h := h.2
              refine zr_goto (pc' := 131) dX12_laysTown_127 rfl ?_
              refine zr_iadd (pc' := 132) dX12_laysTown_131 rfl ?_
              refine zr_put (pc' := 135) dX12_laysTown_132 rfl ps_102 kd_102 fl_X12_474 kc_12 rfl nf_102_94 rfl trivial (fun M34 hM1 => ?_)
              have h := h M34 hM1
              exact zr_return (x := 0) dX12_laysTown_135 rfl (Nat.le_refl _) (Nat.le_refl _) (And.intro rfl h)
          · have h := h.2.2 hc
            refine zr_iload_n (pc' := 96) (i := 3) dX12_laysTown_95 rfl rfl rfl ?_
            refine zr_aload_n (pc' := 97) (i := 0) dX12_laysTown_96 rfl rfl rfl ?_
            refine zr_get (pc' := 100) dX12_laysTown_97 rfl ps_102 kd_102 fl_X12_471 kc_12 (gv_102_93 _) ?_
            refine zr_icmp_le (tgt := 136) (pc' := 103) dX12_laysTown_100 rfl rfl h.1.1 h.1.2 (fun hc => ?_) (fun hc => ?_)
            · have h := h.2.1 hc
              refine zr_iload_n (pc' := 137) (i := 3) dX12_laysTown_136 rfl rfl rfl ?_
              refine zr_aload_n (pc' := 138) (i := 0) dX12_laysTown_137 rfl rfl rfl ?_
              refine zr_get (pc' := 141) dX12_laysTown_138 rfl ps_102 kd_102 fl_X12_464 kc_12 (gv_102_92 _) ?_
              refine zr_icmp_ge (tgt := 149) (pc' := 144) dX12_laysTown_141 rfl rfl h.1.1 h.1.2 (fun hc => ?_) (fun hc => ?_)
              · have h := h.2.1 hc
                refine zr_aload_n (pc' := 150) (i := 0) dX12_laysTown_149 rfl rfl rfl ?_
                refine zr_iload_n (pc' := 151) (i := 1) dX12_laysTown_150 rfl rfl rfl ?_
                refine zr_iload_n (pc' := 152) (i := 2) dX12_laysTown_151 rfl rfl rfl ?_
                refine zr_iload_n (pc' := 153) (i := 3) dX12_laysTown_152 rfl rfl rfl ?_
                refine zn_callV (pc' := 156) (args := [.inl l1, .inl l2, .inl r29]) (st := []) (st' := fun r35 => [.inl r35]) dX12_laysTown_153 rfl cv_X12_483 ⟨rfl, rfl, by decide, by decide⟩ rfl ps_102 kd_102 rfl rfl (Nat.le_of_ble_eq_true rfl) (fun _ => rfl) h ?_
                intro r35 M36 h
                refine zr_if_eq (tgt := 178) (pc' := 159) dX12_laysTown_156 rfl rfl h.1 (fun hc => ?_) (fun hc => ?_)
                · have h := h.2.1 hc
                  exact zr_return (x := 0) dX12_laysTown_178 rfl (Nat.le_refl _) (Nat.le_refl _) (And.intro rfl h)
                · have h := h.2.2 hc
                  refine zr_aload_n (pc' := 160) (i := 0) dX12_laysTown_159 rfl rfl rfl ?_
                  refine zr_sipush (pc' := 163) dX12_laysTown_160 rfl rfl ?_
                  refine zr_aload_n (pc' := 164) (i := 0) dX12_laysTown_163 rfl rfl rfl ?_
                  refine zr_iload_n (pc' := 165) (i := 2) dX12_laysTown_164 rfl rfl rfl ?_
                  refine zr_iload_n (pc' := 166) (i := 3) dX12_laysTown_165 rfl rfl rfl ?_
                  refine zn_callV (pc' := 169) (args := [.inl l2, .inl r29]) (st := [.inl 400, .inr (.inr 102)]) (st' := fun r37 => [.inl r37, .inl 400, .inr (.inr 102)]) dX12_laysTown_166 rfl cv_X12_486 ⟨rfl, rfl, by decide, by decide⟩ rfl ps_102 kd_102 rfl rfl (Nat.le_of_ble_eq_true rfl) (fun _ => rfl) h ?_
                  intro r37 M38 h
                  refine zr_aload_n (pc' := 170) (i := 0) dX12_laysTown_169 rfl rfl rfl ?_
                  refine zr_get (pc' := 173) dX12_laysTown_170 rfl ps_102 kd_102 fl_X12_145 kc_12 (gv_102_72 _) ?_
                  refine zr_iload_n (pc' := 174) (i := 2) dX12_laysTown_173 rfl rfl rfl ?_
                  refine zr_iald (pc' := 175) dX12_laysTown_174 rfl ps_144 kd_144 (by decide) h.1.1 h.1.2 ?_
                  have h := h.2
                  refine zn_callV (pc' := 178) (args := [.inl 400, .inl r37, .inl (M38 144 l2.toNat)]) (st := []) (st' := fun _ => []) dX12_laysTown_175 rfl cv_X12_489 ⟨rfl, rfl, by decide, by decide⟩ rfl ps_102 kd_102 rfl rfl (Nat.le_of_ble_eq_true rfl) (fun _ => rfl) h ?_
                  intro r39 M40 h
                  exact zr_return (x := 0) dX12_laysTown_178 rfl (Nat.le_refl _) (Nat.le_refl _) (And.intro rfl h)
              · have h := h.2.2 hc
                refine zr_aload_n (pc' := 145) (i := 0) dX12_laysTown_144 rfl rfl rfl ?_
                refine zr_get (pc' := 148) dX12_laysTown_145 rfl ps_102 kd_102 fl_X12_464 kc_12 (gv_102_92 _) ?_
                refine zr_istore_n (pc' := 149) (i := 3) (al' := [(3, .inl (M30 102 92)), (0, .inr (.inr 102)), (1, .inl l1), (2, .inl l2)]) dX12_laysTown_148 rfl rfl (by decide) rfl ?_
                refine zr_aload_n (pc' := 150) (i := 0) dX12_laysTown_149 rfl rfl rfl ?_
                refine zr_iload_n (pc' := 151) (i := 1) dX12_laysTown_150 rfl rfl rfl ?_
                refine zr_iload_n (pc' := 152) (i := 2) dX12_laysTown_151 rfl rfl rfl ?_
                refine zr_iload_n (pc' := 153) (i := 3) dX12_laysTown_152 rfl rfl rfl ?_
                refine zn_callV (pc' := 156) (args := [.inl l1, .inl l2, .inl (M30 102 92)]) (st := []) (st' := fun r41 => [.inl r41]) dX12_laysTown_153 rfl cv_X12_483 ⟨rfl, rfl, by decide, by decide⟩ rfl ps_102 kd_102 rfl rfl (Nat.le_of_ble_eq_true rfl) (fun _ => rfl) h ?_
                intro r41 M42 h
                refine zr_if_eq (tgt := 178) (pc' := 159) dX12_laysTown_156 rfl rfl h.1 (fun hc => ?_) (fun hc => ?_)
                · have h := h.2.1 hc
                  exact zr_return (x := 0) dX12_laysTown_178 rfl (Nat.le_refl _) (Nat.le_refl _) (And.intro rfl h)
                · have h := h.2.2 hc
                  refine zr_aload_n (pc' := 160) (i := 0) dX12_laysTown_159 rfl rfl rfl ?_
                  refine zr_sipush (pc' := 163) dX12_laysTown_160 rfl rfl ?_
                  refine zr_aload_n (pc' := 164) (i := 0) dX12_laysTown_163 rfl rfl rfl ?_
                  refine zr_iload_n (pc' := 165) (i := 2) dX12_laysTown_164 rfl rfl rfl ?_
                  refine zr_iload_n (pc' := 166) (i := 3) dX12_laysTown_165 rfl rfl rfl ?_
                  refine zn_callV (pc' := 169) (args := [.inl l2, .inl (M30 102 92)]) (st := [.inl 400, .inr (.inr 102)]) (st' := fun r43 => [.inl r43, .inl 400, .inr (.inr 102)]) dX12_laysTown_166 rfl cv_X12_486 ⟨rfl, rfl, by decide, by decide⟩ rfl ps_102 kd_102 rfl rfl (Nat.le_of_ble_eq_true rfl) (fun _ => rfl) h ?_
                  intro r43 M44 h
                  refine zr_aload_n (pc' := 170) (i := 0) dX12_laysTown_169 rfl rfl rfl ?_
                  refine zr_get (pc' := 173) dX12_laysTown_170 rfl ps_102 kd_102 fl_X12_145 kc_12 (gv_102_72 _) ?_
                  refine zr_iload_n (pc' := 174) (i := 2) dX12_laysTown_173 rfl rfl rfl ?_
                  refine zr_iald (pc' := 175) dX12_laysTown_174 rfl ps_144 kd_144 (by decide) h.1.1 h.1.2 ?_
                  have h := h.2
                  refine zn_callV (pc' := 178) (args := [.inl 400, .inl r43, .inl (M44 144 l2.toNat)]) (st := []) (st' := fun _ => []) dX12_laysTown_175 rfl cv_X12_489 ⟨rfl, rfl, by decide, by decide⟩ rfl ps_102 kd_102 rfl rfl (Nat.le_of_ble_eq_true rfl) (fun _ => rfl) h ?_
                  intro r45 M46 h
                  exact zr_return (x := 0) dX12_laysTown_178 rfl (Nat.le_refl _) (Nat.le_refl _) (And.intro rfl h)
            · have h := h.2.2 hc
              refine zr_aload_n (pc' := 104) (i := 0) dX12_laysTown_103 rfl rfl rfl ?_
              refine zr_dup (pc' := 105) dX12_laysTown_104 rfl rfl ?_
              refine zr_get (pc' := 108) dX12_laysTown_105 rfl ps_102 kd_102 fl_X12_474 kc_12 (gv_102_94 _) ?_
              refine zr_aload_n (pc' := 109) (i := 0) dX12_laysTown_108 rfl rfl rfl ?_
              refine zr_iload_n (pc' := 110) (i := 1) dX12_laysTown_109 rfl rfl rfl ?_
              refine zr_iload_n (pc' := 111) (i := 2) dX12_laysTown_110 rfl rfl rfl ?_
              refine zr_aload_n (pc' := 112) (i := 0) dX12_laysTown_111 rfl rfl rfl ?_
              refine zr_get (pc' := 115) dX12_laysTown_112 rfl ps_102 kd_102 fl_X12_471 kc_12 (gv_102_93 _) ?_
              refine zn_callV (pc' := 118) (args := [.inl l1, .inl l2, .inl (M30 102 93)]) (st := [.inl (M30 102 94), .inr (.inr 102)]) (st' := fun r47 => [.inl r47, .inl (M30 102 94), .inr (.inr 102)]) dX12_laysTown_115 rfl cv_X12_483 ⟨rfl, rfl, by decide, by decide⟩ rfl ps_102 kd_102 rfl rfl (Nat.le_of_ble_eq_true rfl) (fun _ => rfl) h ?_
              intro r47 M48 h
              refine zr_if_eq (tgt := 130) (pc' := 121) dX12_laysTown_118 rfl rfl h.1 (fun hc => ?_) (fun hc => ?_)
              · have h := h.2.1 hc
                refine zr_iconst (pc' := 131) dX12_laysTown_130 rfl ?_
                refine zr_iadd (pc' := 132) dX12_laysTown_131 rfl ?_
                refine zr_put (pc' := 135) dX12_laysTown_132 rfl ps_102 kd_102 fl_X12_474 kc_12 rfl nf_102_94 rfl trivial (fun M49 hM1 => ?_)
                have h := h M49 hM1
                exact zr_return (x := 0) dX12_laysTown_135 rfl (Nat.le_refl _) (Nat.le_refl _) (And.intro rfl h)
              · have h := h.2.2 hc
                refine zr_aload_n (pc' := 122) (i := 0) dX12_laysTown_121 rfl rfl rfl ?_
                refine zr_get (pc' := 125) dX12_laysTown_122 rfl ps_102 kd_102 fl_X12_145 kc_12 (gv_102_72 _) ?_
                refine zr_iload_n (pc' := 126) (i := 2) dX12_laysTown_125 rfl rfl rfl ?_
                refine zr_iald (pc' := 127) dX12_laysTown_126 rfl ps_144 kd_144 (by decide) h.1.1 h.1.2 ?_
                have h := h.2
                refine zr_goto (pc' := 131) dX12_laysTown_127 rfl ?_
                refine zr_iadd (pc' := 132) dX12_laysTown_131 rfl ?_
                refine zr_put (pc' := 135) dX12_laysTown_132 rfl ps_102 kd_102 fl_X12_474 kc_12 rfl nf_102_94 rfl trivial (fun M50 hM1 => ?_)
                have h := h M50 hM1
                exact zr_return (x := 0) dX12_laysTown_135 rfl (Nat.le_refl _) (Nat.le_refl _) (And.intro rfl h)
      · have h := h.2.2 hc
        refine zr_aload_n (pc' := 14) (i := 0) dX12_laysTown_13 rfl rfl rfl ?_
        refine zr_iload_n (pc' := 15) (i := 1) dX12_laysTown_14 rfl rfl rfl ?_
        refine zr_iload_n (pc' := 16) (i := 2) dX12_laysTown_15 rfl rfl rfl ?_
        refine zr_iload_n (pc' := 17) (i := 3) dX12_laysTown_16 rfl rfl rfl ?_
        refine zr_iconst (pc' := 18) dX12_laysTown_17 rfl ?_
        refine zr_iadd (pc' := 19) dX12_laysTown_18 rfl ?_
        refine zn_callV (pc' := 22) (args := [.inl l1, .inl l2, .inl (l3 + 1)]) (st := []) (st' := fun r51 => [.inl r51]) dX12_laysTown_19 rfl cv_X12_483 ⟨rfl, rfl, by decide, by decide⟩ rfl ps_102 kd_102 rfl rfl (Nat.le_of_ble_eq_true rfl) (fun _ => rfl) h ?_
        intro r51 M52 h
        refine zr_if_eq (tgt := 46) (pc' := 25) dX12_laysTown_22 rfl rfl h.1 (fun hc => ?_) (fun hc => ?_)
        · have h := h.2.1 hc
          refine zr_iinc (pc' := 49) (al' := [(3, .inl (l3 + 1)), (0, .inr (.inr 102)), (1, .inl l1), (2, .inl l2)]) dX12_laysTown_46 rfl rfl (by decide) rfl ?_
          refine zr_goto (pc' := 5) dX12_laysTown_49 rfl ?_
          obtain ⟨n', hn, h⟩ := h
          exact zn_al ((ih n' hn) _ _ _ _ h) ⟨rfl, rfl, rfl, rfl, trivial⟩
        · have h := h.2.2 hc
          refine zr_aload_n (pc' := 26) (i := 0) dX12_laysTown_25 rfl rfl rfl ?_
          refine zr_aload_n (pc' := 27) (i := 0) dX12_laysTown_26 rfl rfl rfl ?_
          refine zr_iload_n (pc' := 28) (i := 2) dX12_laysTown_27 rfl rfl rfl ?_
          refine zr_iload_n (pc' := 29) (i := 3) dX12_laysTown_28 rfl rfl rfl ?_
          refine zn_callV (pc' := 32) (args := [.inl l2, .inl l3]) (st := [.inr (.inr 102)]) (st' := fun r53 => [.inl r53, .inr (.inr 102)]) dX12_laysTown_29 rfl cv_X12_486 ⟨rfl, rfl, by decide, by decide⟩ rfl ps_102 kd_102 rfl rfl (Nat.le_of_ble_eq_true rfl) (fun _ => rfl) h ?_
          intro r53 M54 h
          refine zr_aload_n (pc' := 33) (i := 0) dX12_laysTown_32 rfl rfl rfl ?_
          refine zr_iload_n (pc' := 34) (i := 2) dX12_laysTown_33 rfl rfl rfl ?_
          refine zr_iload_n (pc' := 35) (i := 3) dX12_laysTown_34 rfl rfl rfl ?_
          refine zr_iconst (pc' := 36) dX12_laysTown_35 rfl ?_
          refine zr_iadd (pc' := 37) dX12_laysTown_36 rfl ?_
          refine zn_callV (pc' := 40) (args := [.inl l2, .inl (l3 + 1)]) (st := [.inl r53, .inr (.inr 102)]) (st' := fun r55 => [.inl r55, .inl r53, .inr (.inr 102)]) dX12_laysTown_37 rfl cv_X12_486 ⟨rfl, rfl, by decide, by decide⟩ rfl ps_102 kd_102 rfl rfl (Nat.le_of_ble_eq_true rfl) (fun _ => rfl) h ?_
          intro r55 M56 h
          refine zr_ldcw (pc' := 43) (x := 1000000) dX12_laysTown_40 rfl ci_X12_467 ?_
          refine zn_callV (pc' := 46) (args := [.inl r53, .inl r55, .inl 1000000]) (st := []) (st' := fun _ => []) dX12_laysTown_43 rfl cv_X12_489 ⟨rfl, rfl, by decide, by decide⟩ rfl ps_102 kd_102 rfl rfl (Nat.le_of_ble_eq_true rfl) (fun _ => rfl) h ?_
          intro r57 M58 h
          refine zr_iinc (pc' := 49) (al' := [(3, .inl (l3 + 1)), (0, .inr (.inr 102)), (1, .inl l1), (2, .inl l2)]) dX12_laysTown_46 rfl rfl (by decide) rfl ?_
          refine zr_goto (pc' := 5) dX12_laysTown_49 rfl ?_
          obtain ⟨n', hn, h⟩ := h
          exact zn_al ((ih n' hn) _ _ _ _ h) ⟨rfl, rfl, rfl, rfl, trivial⟩
  refine zP_of (by decide +kernel) rfl (Nat.le_of_ble_eq_true rfl) ?_
  show zA E zNN (0, 0) mX12_laysTown 0 [(0, .inr (.inr 102)), (1, .inl l1), (2, .inl l2)] [] M (zQ Q)
  refine zr_aload_n (pc' := 1) (i := 0) dX12_laysTown_0 rfl rfl rfl ?_
  refine zr_get (pc' := 4) dX12_laysTown_1 rfl ps_102 kd_102 fl_X12_464 kc_12 (gv_102_92 _) ?_
  refine zr_istore_n (pc' := 5) (i := 3) (al' := [(3, .inl (M 102 92)), (0, .inr (.inr 102)), (1, .inl l1), (2, .inl l2)]) dX12_laysTown_4 rfl rfl (by decide) rfl ?_
  obtain ⟨n', h⟩ := h
  exact zn_al ((key n') _ _ _ _ h) ⟨rfl, rfl, rfl, rfl, trivial⟩
set_option maxRecDepth 20000 in
theorem vcX12_laysShelter {E : zE} {M : zM} {Q : Int → zM → Prop} (l1 : Int) (I5 : Nat → Int → Int → zM → Prop)
    (h : ∃ n', I5 n' l1 (M 102 92) M)
    (h5 : ∀ (n : Nat) (l1 l2 : Int) (M : zM), I5 n l1 l2 M → ((zR l2 ∧ zR (M 102 93)) ∧ (((M 102 93) ≤ l2 → (zP E mX12_nodeOf [.inr (.inr 102), .inl l1, .inl (M 102 93)] M (fun r1 M2 => (0 ≤ l1 ∧ l1 < 8) ∧ (zP E mX12_arc [.inr (.inr 102), .inl r1, .inl 401, .inl (M2 147 l1.toNat)] M2 (fun r3 M4 => Q 0 M4))))) ∧ (l2 < (M 102 93) → (zP E mX12_nodeOf [.inr (.inr 102), .inl l1, .inl l2] M (fun r5 M6 => (zP E mX12_nodeOf [.inr (.inr 102), .inl l1, .inl (l2 + 1)] M6 (fun r7 M8 => (zP E mX12_arc [.inr (.inr 102), .inl r5, .inl r7, .inl 1000000] M8 (fun r9 M10 => ∃ n', n' < n ∧ I5 n' l1 (l2 + 1) M10))))))))))
    : zP E mX12_laysShelter [.inr (.inr 102), .inl l1] M Q := by
  have key : ∀ n : Nat, (∀ (l1 l2 : Int) (M : zM), I5 n l1 l2 M → zA E zNN (0, 0) mX12_laysShelter 5 [(0, .inr (.inr 102)), (1, .inl l1), (2, .inl l2)] [] M (zQ Q)) := by
    intro n
    induction n using Nat.strongRecOn with
    | ind n ih =>
      intro l1 l2 M h
      have h := h5 n l1 l2 M h
      refine zr_iload_n (pc' := 6) (i := 2) dX12_laysShelter_5 rfl rfl rfl ?_
      refine zr_aload_n (pc' := 7) (i := 0) dX12_laysShelter_6 rfl rfl rfl ?_
      refine zr_get (pc' := 10) dX12_laysShelter_7 rfl ps_102 kd_102 fl_X12_471 kc_12 (gv_102_93 _) ?_
      refine zr_icmp_ge (tgt := 40) (pc' := 13) dX12_laysShelter_10 rfl rfl h.1.1 h.1.2 (fun hc => ?_) (fun hc => ?_)
      · have h := h.2.1 hc
        refine zr_aload_n (pc' := 41) (i := 0) dX12_laysShelter_40 rfl rfl rfl ?_
        refine zr_aload_n (pc' := 42) (i := 0) dX12_laysShelter_41 rfl rfl rfl ?_
        refine zr_iload_n (pc' := 43) (i := 1) dX12_laysShelter_42 rfl rfl rfl ?_
        refine zr_aload_n (pc' := 44) (i := 0) dX12_laysShelter_43 rfl rfl rfl ?_
        refine zr_get (pc' := 47) dX12_laysShelter_44 rfl ps_102 kd_102 fl_X12_471 kc_12 (gv_102_93 _) ?_
        refine zn_callV (pc' := 50) (args := [.inl l1, .inl (M 102 93)]) (st := [.inr (.inr 102)]) (st' := fun r1 => [.inl r1, .inr (.inr 102)]) dX12_laysShelter_47 rfl cv_X12_486 ⟨rfl, rfl, by decide, by decide⟩ rfl ps_102 kd_102 rfl rfl (Nat.le_of_ble_eq_true rfl) (fun _ => rfl) h ?_
        intro r1 M2 h
        refine zr_sipush (pc' := 53) dX12_laysShelter_50 rfl rfl ?_
        refine zr_aload_n (pc' := 54) (i := 0) dX12_laysShelter_53 rfl rfl rfl ?_
        refine zr_get (pc' := 57) dX12_laysShelter_54 rfl ps_102 kd_102 fl_X12_154 kc_12 (gv_102_75 _) ?_
        refine zr_iload_n (pc' := 58) (i := 1) dX12_laysShelter_57 rfl rfl rfl ?_
        refine zr_iald (pc' := 59) dX12_laysShelter_58 rfl ps_147 kd_147 (by decide) h.1.1 h.1.2 ?_
        have h := h.2
        refine zn_callV (pc' := 62) (args := [.inl r1, .inl 401, .inl (M2 147 l1.toNat)]) (st := []) (st' := fun _ => []) dX12_laysShelter_59 rfl cv_X12_489 ⟨rfl, rfl, by decide, by decide⟩ rfl ps_102 kd_102 rfl rfl (Nat.le_of_ble_eq_true rfl) (fun _ => rfl) h ?_
        intro r3 M4 h
        exact zr_return (x := 0) dX12_laysShelter_62 rfl (Nat.le_refl _) (Nat.le_refl _) (And.intro rfl h)
      · have h := h.2.2 hc
        refine zr_aload_n (pc' := 14) (i := 0) dX12_laysShelter_13 rfl rfl rfl ?_
        refine zr_aload_n (pc' := 15) (i := 0) dX12_laysShelter_14 rfl rfl rfl ?_
        refine zr_iload_n (pc' := 16) (i := 1) dX12_laysShelter_15 rfl rfl rfl ?_
        refine zr_iload_n (pc' := 17) (i := 2) dX12_laysShelter_16 rfl rfl rfl ?_
        refine zn_callV (pc' := 20) (args := [.inl l1, .inl l2]) (st := [.inr (.inr 102)]) (st' := fun r5 => [.inl r5, .inr (.inr 102)]) dX12_laysShelter_17 rfl cv_X12_486 ⟨rfl, rfl, by decide, by decide⟩ rfl ps_102 kd_102 rfl rfl (Nat.le_of_ble_eq_true rfl) (fun _ => rfl) h ?_
        intro r5 M6 h
        refine zr_aload_n (pc' := 21) (i := 0) dX12_laysShelter_20 rfl rfl rfl ?_
        refine zr_iload_n (pc' := 22) (i := 1) dX12_laysShelter_21 rfl rfl rfl ?_
        refine zr_iload_n (pc' := 23) (i := 2) dX12_laysShelter_22 rfl rfl rfl ?_
        refine zr_iconst (pc' := 24) dX12_laysShelter_23 rfl ?_
        refine zr_iadd (pc' := 25) dX12_laysShelter_24 rfl ?_
        refine zn_callV (pc' := 28) (args := [.inl l1, .inl (l2 + 1)]) (st := [.inl r5, .inr (.inr 102)]) (st' := fun r7 => [.inl r7, .inl r5, .inr (.inr 102)]) dX12_laysShelter_25 rfl cv_X12_486 ⟨rfl, rfl, by decide, by decide⟩ rfl ps_102 kd_102 rfl rfl (Nat.le_of_ble_eq_true rfl) (fun _ => rfl) h ?_
        intro r7 M8 h
        refine zr_ldcw (pc' := 31) (x := 1000000) dX12_laysShelter_28 rfl ci_X12_467 ?_
        refine zn_callV (pc' := 34) (args := [.inl r5, .inl r7, .inl 1000000]) (st := []) (st' := fun _ => []) dX12_laysShelter_31 rfl cv_X12_489 ⟨rfl, rfl, by decide, by decide⟩ rfl ps_102 kd_102 rfl rfl (Nat.le_of_ble_eq_true rfl) (fun _ => rfl) h ?_
        intro r9 M10 h
        refine zr_iinc (pc' := 37) (al' := [(2, .inl (l2 + 1)), (0, .inr (.inr 102)), (1, .inl l1)]) dX12_laysShelter_34 rfl rfl (by decide) rfl ?_
        refine zr_goto (pc' := 5) dX12_laysShelter_37 rfl ?_
        obtain ⟨n', hn, h⟩ := h
        exact zn_al ((ih n' hn) _ _ _ h) ⟨rfl, rfl, rfl, trivial⟩
  refine zP_of (by decide +kernel) rfl (Nat.le_of_ble_eq_true rfl) ?_
  show zA E zNN (0, 0) mX12_laysShelter 0 [(0, .inr (.inr 102)), (1, .inl l1)] [] M (zQ Q)
  refine zr_aload_n (pc' := 1) (i := 0) dX12_laysShelter_0 rfl rfl rfl ?_
  refine zr_get (pc' := 4) dX12_laysShelter_1 rfl ps_102 kd_102 fl_X12_464 kc_12 (gv_102_92 _) ?_
  refine zr_istore_n (pc' := 5) (i := 2) (al' := [(2, .inl (M 102 92)), (0, .inr (.inr 102)), (1, .inl l1)]) dX12_laysShelter_4 rfl rfl (by decide) rfl ?_
  obtain ⟨n', h⟩ := h
  exact zn_al ((key n') _ _ _ h) ⟨rfl, rfl, rfl, trivial⟩
set_option maxRecDepth 20000 in
theorem vcX12_spreads {E : zE} {M : zM} {Q : Int → zM → Prop} (I2 : Nat → Int → zM → Prop) (I46 : Nat → Int → Int → zM → Prop) (I64 : Nat → Int → Int → Int → Int → zM → Prop)
    (h : ∃ n', I2 n' 0 M)
    (h2 : ∀ (n : Nat) (l1 : Int) (M : zM), I2 n l1 M → ((zR l1) ∧ ((402 ≤ l1 → (∀ M1, M1 = zup M 160 400 1000000 → (∀ M2, M2 = zup M1 161 0 400 → ∃ n', n' < n ∧ I46 n' 0 1 M2))) ∧ (l1 < 402 → (0 ≤ l1 ∧ l1 < 402) ∧ (∀ M3, M3 = zup M 160 l1.toNat (-1) → ∃ n', n' < n ∧ I2 n' (l1 + 1) M3)))))
    (h46 : ∀ (n : Nat) (l1 l2 : Int) (M : zM), I46 n l1 l2 M → ((zR l1 ∧ zR l2) ∧ ((l2 ≤ l1 → ((zR (M 160 401)) ∧ (((M 160 401) = (-1) → Q 0 M) ∧ (¬ (M 160 401) = (-1) → Q 1 M)))) ∧ (l1 < l2 → (0 ≤ l1 ∧ l1 < 402) ∧ ∃ n', n' < n ∧ I64 n' (l1 + 1) l2 (M 161 l1.toNat) 0 M))))
    (h64 : ∀ (n : Nat) (l1 l2 l3 l4 : Int) (M : zM), I64 n l1 l2 l3 l4 M → ((zR l4 ∧ zR (M 102 85)) ∧ (((M 102 85) ≤ l4 → ∃ n', n' < n ∧ I46 n' l1 l2 M) ∧ (l4 < (M 102 85) → (0 ≤ l4 ∧ l4 < 1400) ∧ ((zR (M 156 l4.toNat) ∧ zR l3) ∧ ((¬ (M 156 l4.toNat) = l3 → (0 ≤ l4 ∧ l4 < 1400) ∧ ((zR (M 157 l4.toNat) ∧ zR l3) ∧ ((¬ (M 157 l4.toNat) = l3 → ∃ n', n' < n ∧ I64 n' l1 l2 l3 (l4 + 1) M) ∧ ((M 157 l4.toNat) = l3 → (0 ≤ l4 ∧ l4 < 1400) ∧ ((zR (M 159 l4.toNat)) ∧ (((M 159 l4.toNat) ≤ 0 → ∃ n', n' < n ∧ I64 n' l1 l2 l3 (l4 + 1) M) ∧ (0 < (M 159 l4.toNat) → (0 ≤ l4 ∧ l4 < 1400) ∧ (0 ≤ M 156 l4.toNat ∧ M 156 l4.toNat < 402) ∧ ((zR (M 160 ((M 156 l4.toNat).toNat))) ∧ ((¬ (M 160 ((M 156 l4.toNat).toNat)) = (-1) → ∃ n', n' < n ∧ I64 n' l1 l2 l3 (l4 + 1) M) ∧ ((M 160 ((M 156 l4.toNat).toNat)) = (-1) → (0 ≤ l4 ∧ l4 < 1400) ∧ (0 ≤ M 156 l4.toNat ∧ M 156 l4.toNat < 402) ∧ (∀ M4, M4 = zup M 160 ((M 156 l4.toNat).toNat) (1000001 + l4) → (0 ≤ l4 ∧ l4 < 1400) ∧ (0 ≤ l2 ∧ l2 < 402) ∧ (∀ M5, M5 = zup M4 161 l2.toNat (M4 156 l4.toNat) → ∃ n', n' < n ∧ I64 n' l1 (l2 + 1) l3 (l4 + 1) M5)))))))))))) ∧ ((M 156 l4.toNat) = l3 → (0 ≤ l4 ∧ l4 < 1400) ∧ ((zR (M 158 l4.toNat)) ∧ (((M 158 l4.toNat) ≤ 0 → (0 ≤ l4 ∧ l4 < 1400) ∧ ((zR (M 157 l4.toNat) ∧ zR l3) ∧ ((¬ (M 157 l4.toNat) = l3 → ∃ n', n' < n ∧ I64 n' l1 l2 l3 (l4 + 1) M) ∧ ((M 157 l4.toNat) = l3 → (0 ≤ l4 ∧ l4 < 1400) ∧ ((zR (M 159 l4.toNat)) ∧ (((M 159 l4.toNat) ≤ 0 → ∃ n', n' < n ∧ I64 n' l1 l2 l3 (l4 + 1) M) ∧ (0 < (M 159 l4.toNat) → (0 ≤ l4 ∧ l4 < 1400) ∧ (0 ≤ M 156 l4.toNat ∧ M 156 l4.toNat < 402) ∧ ((zR (M 160 ((M 156 l4.toNat).toNat))) ∧ ((¬ (M 160 ((M 156 l4.toNat).toNat)) = (-1) → ∃ n', n' < n ∧ I64 n' l1 l2 l3 (l4 + 1) M) ∧ ((M 160 ((M 156 l4.toNat).toNat)) = (-1) → (0 ≤ l4 ∧ l4 < 1400) ∧ (0 ≤ M 156 l4.toNat ∧ M 156 l4.toNat < 402) ∧ (∀ M6, M6 = zup M 160 ((M 156 l4.toNat).toNat) (1000001 + l4) → (0 ≤ l4 ∧ l4 < 1400) ∧ (0 ≤ l2 ∧ l2 < 402) ∧ (∀ M7, M7 = zup M6 161 l2.toNat (M6 156 l4.toNat) → ∃ n', n' < n ∧ I64 n' l1 (l2 + 1) l3 (l4 + 1) M7)))))))))))) ∧ (0 < (M 158 l4.toNat) → (0 ≤ l4 ∧ l4 < 1400) ∧ (0 ≤ M 157 l4.toNat ∧ M 157 l4.toNat < 402) ∧ ((zR (M 160 ((M 157 l4.toNat).toNat))) ∧ ((¬ (M 160 ((M 157 l4.toNat).toNat)) = (-1) → (0 ≤ l4 ∧ l4 < 1400) ∧ ((zR (M 157 l4.toNat) ∧ zR l3) ∧ ((¬ (M 157 l4.toNat) = l3 → ∃ n', n' < n ∧ I64 n' l1 l2 l3 (l4 + 1) M) ∧ ((M 157 l4.toNat) = l3 → (0 ≤ l4 ∧ l4 < 1400) ∧ ((zR (M 159 l4.toNat)) ∧ (((M 159 l4.toNat) ≤ 0 → ∃ n', n' < n ∧ I64 n' l1 l2 l3 (l4 + 1) M) ∧ (0 < (M 159 l4.toNat) → (0 ≤ l4 ∧ l4 < 1400) ∧ (0 ≤ M 156 l4.toNat ∧ M 156 l4.toNat < 402) ∧ ((zR (M 160 ((M 156 l4.toNat).toNat))) ∧ ((¬ (M 160 ((M 156 l4.toNat).toNat)) = (-1) → ∃ n', n' < n ∧ I64 n' l1 l2 l3 (l4 + 1) M) ∧ ((M 160 ((M 156 l4.toNat).toNat)) = (-1) → (0 ≤ l4 ∧ l4 < 1400) ∧ (0 ≤ M 156 l4.toNat ∧ M 156 l4.toNat < 402) ∧ (∀ M8, M8 = zup M 160 ((M 156 l4.toNat).toNat) (1000001 + l4) → (0 ≤ l4 ∧ l4 < 1400) ∧ (0 ≤ l2 ∧ l2 < 402) ∧ (∀ M9, M9 = zup M8 161 l2.toNat (M8 156 l4.toNat) → ∃ n', n' < n ∧ I64 n' l1 (l2 + 1) l3 (l4 + 1) M9)))))))))))) ∧ ((M 160 ((M 157 l4.toNat).toNat)) = (-1) → (0 ≤ l4 ∧ l4 < 1400) ∧ (0 ≤ M 157 l4.toNat ∧ M 157 l4.toNat < 402) ∧ (∀ M10, M10 = zup M 160 ((M 157 l4.toNat).toNat) l4 → (0 ≤ l4 ∧ l4 < 1400) ∧ (0 ≤ l2 ∧ l2 < 402) ∧ (∀ M11, M11 = zup M10 161 l2.toNat (M10 157 l4.toNat) → ∃ n', n' < n ∧ I64 n' l1 (l2 + 1) l3 (l4 + 1) M11)))))))))))))))
    : zP E mX12_spreads [.inr (.inr 102)] M Q := by
  have key : ∀ n : Nat, (∀ (l1 : Int) (M : zM), I2 n l1 M → zA E zNN (0, 0) mX12_spreads 2 [(0, .inr (.inr 102)), (1, .inl l1)] [] M (zQ Q)) ∧ (∀ (l1 l2 : Int) (M : zM), I46 n l1 l2 M → zA E zNN (0, 0) mX12_spreads 46 [(0, .inr (.inr 102)), (1, .inl l1), (2, .inl l2)] [] M (zQ Q)) ∧ (∀ (l1 l2 l3 l4 : Int) (M : zM), I64 n l1 l2 l3 l4 M → zA E zNN (0, 0) mX12_spreads 64 [(0, .inr (.inr 102)), (1, .inl l1), (2, .inl l2), (3, .inl l3), (4, .inl l4)] [] M (zQ Q)) := by
    intro n
    induction n using Nat.strongRecOn with
    | ind n ih =>
      refine ⟨?_, ?_, ?_⟩
      · intro l1 M h
        have h := h2 n l1 M h
        refine zr_iload_n (pc' := 3) (i := 1) dX12_spreads_2 rfl rfl rfl ?_
        refine zr_sipush (pc' := 6) dX12_spreads_3 rfl rfl ?_
        refine zr_icmp_ge (tgt := 22) (pc' := 9) dX12_spreads_6 rfl rfl h.1 (zRd rfl) (fun hc => ?_) (fun hc => ?_)
        · have h := h.2.1 hc
          refine zr_aload_n (pc' := 23) (i := 0) dX12_spreads_22 rfl rfl rfl ?_
          refine zr_get (pc' := 26) dX12_spreads_23 rfl ps_102 kd_102 fl_X12_193 kc_12 (gv_102_90 _) ?_
          refine zr_sipush (pc' := 29) dX12_spreads_26 rfl rfl ?_
          refine zr_ldcw (pc' := 32) (x := 1000000) dX12_spreads_29 rfl ci_X12_467 ?_
          refine zr_iast (pc' := 33) dX12_spreads_32 rfl ps_160 kd_160 (by decide) (by decide) (by decide) (fun M1 hM1 => ?_)
          have h := h M1 hM1
          refine zr_iconst (pc' := 34) dX12_spreads_33 rfl ?_
          refine zr_istore_n (pc' := 35) (i := 1) (al' := [(1, .inl 0), (0, .inr (.inr 102))]) dX12_spreads_34 rfl rfl (by decide) rfl ?_
          refine zr_iconst (pc' := 36) dX12_spreads_35 rfl ?_
          refine zr_istore_n (pc' := 37) (i := 2) (al' := [(2, .inl 1), (1, .inl 0), (0, .inr (.inr 102))]) dX12_spreads_36 rfl rfl (by decide) rfl ?_
          refine zr_aload_n (pc' := 38) (i := 0) dX12_spreads_37 rfl rfl rfl ?_
          refine zr_get (pc' := 41) dX12_spreads_38 rfl ps_102 kd_102 fl_X12_196 kc_12 (gv_102_91 _) ?_
          refine zr_iconst (pc' := 42) dX12_spreads_41 rfl ?_
          refine zr_sipush (pc' := 45) dX12_spreads_42 rfl rfl ?_
          refine zr_iast (pc' := 46) dX12_spreads_45 rfl ps_161 kd_161 (by decide) (by decide) (by decide) (fun M2 hM1 => ?_)
          have h := h M2 hM1
          obtain ⟨n', hn, h⟩ := h
          exact zn_al ((ih n' hn).2.1 _ _ _ h) ⟨rfl, rfl, rfl, trivial⟩
        · have h := h.2.2 hc
          refine zr_aload_n (pc' := 10) (i := 0) dX12_spreads_9 rfl rfl rfl ?_
          refine zr_get (pc' := 13) dX12_spreads_10 rfl ps_102 kd_102 fl_X12_193 kc_12 (gv_102_90 _) ?_
          refine zr_iload_n (pc' := 14) (i := 1) dX12_spreads_13 rfl rfl rfl ?_
          refine zr_iconst (pc' := 15) dX12_spreads_14 rfl ?_
          refine zr_iast (pc' := 16) dX12_spreads_15 rfl ps_160 kd_160 (by decide) h.1.1 h.1.2 (fun M3 hM1 => ?_)
          have h := h.2 M3 hM1
          refine zr_iinc (pc' := 19) (al' := [(1, .inl (l1 + 1)), (0, .inr (.inr 102))]) dX12_spreads_16 rfl rfl (by decide) rfl ?_
          refine zr_goto (pc' := 2) dX12_spreads_19 rfl ?_
          obtain ⟨n', hn, h⟩ := h
          exact zn_al ((ih n' hn).1 _ _ h) ⟨rfl, rfl, trivial⟩
      · intro l1 l2 M h
        have h := h46 n l1 l2 M h
        refine zr_iload_n (pc' := 47) (i := 1) dX12_spreads_46 rfl rfl rfl ?_
        refine zr_iload_n (pc' := 48) (i := 2) dX12_spreads_47 rfl rfl rfl ?_
        refine zr_icmp_ge (tgt := 223) (pc' := 51) dX12_spreads_48 rfl rfl h.1.1 h.1.2 (fun hc => ?_) (fun hc => ?_)
        · have h := h.2.1 hc
          refine zr_aload_n (pc' := 224) (i := 0) dX12_spreads_223 rfl rfl rfl ?_
          refine zr_get (pc' := 227) dX12_spreads_224 rfl ps_102 kd_102 fl_X12_193 kc_12 (gv_102_90 _) ?_
          refine zr_sipush (pc' := 230) dX12_spreads_227 rfl rfl ?_
          refine zr_iald (pc' := 231) dX12_spreads_230 rfl ps_160 kd_160 (by decide) (by decide) (by decide) ?_
          refine zr_iconst (pc' := 232) dX12_spreads_231 rfl ?_
          refine zr_icmp_eq (tgt := 239) (pc' := 235) dX12_spreads_232 rfl rfl h.1 (zRd rfl) (fun hc => ?_) (fun hc => ?_)
          · have h := h.2.1 hc
            refine zr_iconst (pc' := 240) dX12_spreads_239 rfl ?_
            exact zr_ireturn dX12_spreads_240 rfl rfl (Or.inl rfl) (Nat.le_refl _) (Nat.le_refl _) (And.intro rfl h)
          · have h := h.2.2 hc
            refine zr_iconst (pc' := 236) dX12_spreads_235 rfl ?_
            refine zr_goto (pc' := 240) dX12_spreads_236 rfl ?_
            exact zr_ireturn dX12_spreads_240 rfl rfl (Or.inr rfl) (Nat.le_refl _) (Nat.le_refl _) (And.intro rfl h)
        · have h := h.2.2 hc
          refine zr_aload_n (pc' := 52) (i := 0) dX12_spreads_51 rfl rfl rfl ?_
          refine zr_get (pc' := 55) dX12_spreads_52 rfl ps_102 kd_102 fl_X12_196 kc_12 (gv_102_91 _) ?_
          refine zr_iload_n (pc' := 56) (i := 1) dX12_spreads_55 rfl rfl rfl ?_
          refine zr_iald (pc' := 57) dX12_spreads_56 rfl ps_161 kd_161 (by decide) h.1.1 h.1.2 ?_
          have h := h.2
          refine zr_istore_n (pc' := 58) (i := 3) (al' := [(3, .inl (M 161 l1.toNat)), (0, .inr (.inr 102)), (1, .inl l1), (2, .inl l2)]) dX12_spreads_57 rfl rfl (by decide) rfl ?_
          refine zr_iinc (pc' := 61) (al' := [(1, .inl (l1 + 1)), (3, .inl (M 161 l1.toNat)), (0, .inr (.inr 102)), (2, .inl l2)]) dX12_spreads_58 rfl rfl (by decide) rfl ?_
          refine zr_iconst (pc' := 62) dX12_spreads_61 rfl ?_
          refine zr_istore (pc' := 64) (al' := [(4, .inl 0), (1, .inl (l1 + 1)), (3, .inl (M 161 l1.toNat)), (0, .inr (.inr 102)), (2, .inl l2)]) dX12_spreads_62 rfl (by decide) rfl ?_
          obtain ⟨n', hn, h⟩ := h
          exact zn_al ((ih n' hn).2.2 _ _ _ _ _ h) ⟨rfl, rfl, rfl, rfl, rfl, trivial⟩
      · intro l1 l2 l3 l4 M h
        have h := h64 n l1 l2 l3 l4 M h
        refine zr_iload (pc' := 66) dX12_spreads_64 rfl rfl ?_
        refine zr_aload_n (pc' := 67) (i := 0) dX12_spreads_66 rfl rfl rfl ?_
        refine zr_get (pc' := 70) dX12_spreads_67 rfl ps_102 kd_102 fl_X12_461 kc_12 (gv_102_85 _) ?_
        refine zr_icmp_ge (tgt := 220) (pc' := 73) dX12_spreads_70 rfl rfl h.1.1 h.1.2 (fun hc => ?_) (fun hc => ?_)
        · have h := h.2.1 hc
          refine zr_goto (pc' := 46) dX12_spreads_220 rfl ?_
          obtain ⟨n', hn, h⟩ := h
          exact zn_al ((ih n' hn).2.1 _ _ _ h) ⟨rfl, rfl, rfl, trivial⟩
        · have h := h.2.2 hc
          refine zr_aload_n (pc' := 74) (i := 0) dX12_spreads_73 rfl rfl rfl ?_
          refine zr_get (pc' := 77) dX12_spreads_74 rfl ps_102 kd_102 fl_X12_181 kc_12 (gv_102_86 _) ?_
          refine zr_iload (pc' := 79) dX12_spreads_77 rfl rfl ?_
          refine zr_iald (pc' := 80) dX12_spreads_79 rfl ps_156 kd_156 (by decide) h.1.1 h.1.2 ?_
          have h := h.2
          refine zr_iload_n (pc' := 81) (i := 3) dX12_spreads_80 rfl rfl rfl ?_
          refine zr_icmp_ne (tgt := 143) (pc' := 84) dX12_spreads_81 rfl rfl h.1.1 h.1.2 (fun hc => ?_) (fun hc => ?_)
          · have h := h.2.1 hc
            refine zr_aload_n (pc' := 144) (i := 0) dX12_spreads_143 rfl rfl rfl ?_
            refine zr_get (pc' := 147) dX12_spreads_144 rfl ps_102 kd_102 fl_X12_184 kc_12 (gv_102_87 _) ?_
            refine zr_iload (pc' := 149) dX12_spreads_147 rfl rfl ?_
            refine zr_iald (pc' := 150) dX12_spreads_149 rfl ps_157 kd_157 (by decide) h.1.1 h.1.2 ?_
            have h := h.2
            refine zr_iload_n (pc' := 151) (i := 3) dX12_spreads_150 rfl rfl rfl ?_
            refine zr_icmp_ne (tgt := 214) (pc' := 154) dX12_spreads_151 rfl rfl h.1.1 h.1.2 (fun hc => ?_) (fun hc => ?_)
            · have h := h.2.1 hc
              refine zr_iinc (pc' := 217) (al' := [(4, .inl (l4 + 1)), (0, .inr (.inr 102)), (1, .inl l1), (2, .inl l2), (3, .inl l3)]) dX12_spreads_214 rfl rfl (by decide) rfl ?_
              refine zr_goto (pc' := 64) dX12_spreads_217 rfl ?_
              obtain ⟨n', hn, h⟩ := h
              exact zn_al ((ih n' hn).2.2 _ _ _ _ _ h) ⟨rfl, rfl, rfl, rfl, rfl, trivial⟩
            · have h := h.2.2 hc
              refine zr_aload_n (pc' := 155) (i := 0) dX12_spreads_154 rfl rfl rfl ?_
              refine zr_get (pc' := 158) dX12_spreads_155 rfl ps_102 kd_102 fl_X12_190 kc_12 (gv_102_89 _) ?_
              refine zr_iload (pc' := 160) dX12_spreads_158 rfl rfl ?_
              refine zr_iald (pc' := 161) dX12_spreads_160 rfl ps_159 kd_159 (by decide) h.1.1 h.1.2 ?_
              have h := h.2
              refine zr_if_le (tgt := 214) (pc' := 164) dX12_spreads_161 rfl rfl h.1 (fun hc => ?_) (fun hc => ?_)
              · have h := h.2.1 hc
                refine zr_iinc (pc' := 217) (al' := [(4, .inl (l4 + 1)), (0, .inr (.inr 102)), (1, .inl l1), (2, .inl l2), (3, .inl l3)]) dX12_spreads_214 rfl rfl (by decide) rfl ?_
                refine zr_goto (pc' := 64) dX12_spreads_217 rfl ?_
                obtain ⟨n', hn, h⟩ := h
                exact zn_al ((ih n' hn).2.2 _ _ _ _ _ h) ⟨rfl, rfl, rfl, rfl, rfl, trivial⟩
              · have h := h.2.2 hc
                refine zr_aload_n (pc' := 165) (i := 0) dX12_spreads_164 rfl rfl rfl ?_
                refine zr_get (pc' := 168) dX12_spreads_165 rfl ps_102 kd_102 fl_X12_193 kc_12 (gv_102_90 _) ?_
                refine zr_aload_n (pc' := 169) (i := 0) dX12_spreads_168 rfl rfl rfl ?_
                refine zr_get (pc' := 172) dX12_spreads_169 rfl ps_102 kd_102 fl_X12_181 kc_12 (gv_102_86 _) ?_
                refine zr_iload (pc' := 174) dX12_spreads_172 rfl rfl ?_
                refine zr_iald (pc' := 175) dX12_spreads_174 rfl ps_156 kd_156 (by decide) h.1.1 h.1.2 ?_
                have h := h.2
                refine zr_iald (pc' := 176) dX12_spreads_175 rfl ps_160 kd_160 (by decide) h.1.1 h.1.2 ?_
                have h := h.2
                refine zr_iconst (pc' := 177) dX12_spreads_176 rfl ?_
                refine zr_icmp_ne (tgt := 214) (pc' := 180) dX12_spreads_177 rfl rfl h.1 (zRd rfl) (fun hc => ?_) (fun hc => ?_)
                · have h := h.2.1 hc
                  refine zr_iinc (pc' := 217) (al' := [(4, .inl (l4 + 1)), (0, .inr (.inr 102)), (1, .inl l1), (2, .inl l2), (3, .inl l3)]) dX12_spreads_214 rfl rfl (by decide) rfl ?_
                  refine zr_goto (pc' := 64) dX12_spreads_217 rfl ?_
                  obtain ⟨n', hn, h⟩ := h
                  exact zn_al ((ih n' hn).2.2 _ _ _ _ _ h) ⟨rfl, rfl, rfl, rfl, rfl, trivial⟩
                · have h := h.2.2 hc
                  refine zr_aload_n (pc' := 181) (i := 0) dX12_spreads_180 rfl rfl rfl ?_
                  refine zr_get (pc' := 184) dX12_spreads_181 rfl ps_102 kd_102 fl_X12_193 kc_12 (gv_102_90 _) ?_
                  refine zr_aload_n (pc' := 185) (i := 0) dX12_spreads_184 rfl rfl rfl ?_
                  refine zr_get (pc' := 188) dX12_spreads_185 rfl ps_102 kd_102 fl_X12_181 kc_12 (gv_102_86 _) ?_
                  refine zr_iload (pc' := 190) dX12_spreads_188 rfl rfl ?_
                  refine zr_iald (pc' := 191) dX12_spreads_190 rfl ps_156 kd_156 (by decide) h.1.1 h.1.2 ?_
                  have h := h.2
                  refine zr_ldcw (pc' := 194) (x := 1000001) dX12_spreads_191 rfl ci_X12_493 ?_
                  refine zr_iload (pc' := 196) dX12_spreads_194 rfl rfl ?_
                  refine zr_iadd (pc' := 197) dX12_spreads_196 rfl ?_
                  refine zr_iast (pc' := 198) dX12_spreads_197 rfl ps_160 kd_160 (by decide) h.1.1 h.1.2 (fun M4 hM1 => ?_)
                  have h := h.2 M4 hM1
                  refine zr_aload_n (pc' := 199) (i := 0) dX12_spreads_198 rfl rfl rfl ?_
                  refine zr_get (pc' := 202) dX12_spreads_199 rfl ps_102 kd_102 fl_X12_196 kc_12 (gv_102_91 _) ?_
                  refine zr_iload_n (pc' := 203) (i := 2) dX12_spreads_202 rfl rfl rfl ?_
                  refine zr_aload_n (pc' := 204) (i := 0) dX12_spreads_203 rfl rfl rfl ?_
                  refine zr_get (pc' := 207) dX12_spreads_204 rfl ps_102 kd_102 fl_X12_181 kc_12 (gv_102_86 _) ?_
                  refine zr_iload (pc' := 209) dX12_spreads_207 rfl rfl ?_
                  refine zr_iald (pc' := 210) dX12_spreads_209 rfl ps_156 kd_156 (by decide) h.1.1 h.1.2 ?_
                  have h := h.2
                  refine zr_iast (pc' := 211) dX12_spreads_210 rfl ps_161 kd_161 (by decide) h.1.1 h.1.2 (fun M5 hM1 => ?_)
                  have h := h.2 M5 hM1
                  refine zr_iinc (pc' := 214) (al' := [(2, .inl (l2 + 1)), (0, .inr (.inr 102)), (1, .inl l1), (3, .inl l3), (4, .inl l4)]) dX12_spreads_211 rfl rfl (by decide) rfl ?_
                  refine zr_iinc (pc' := 217) (al' := [(4, .inl (l4 + 1)), (2, .inl (l2 + 1)), (0, .inr (.inr 102)), (1, .inl l1), (3, .inl l3)]) dX12_spreads_214 rfl rfl (by decide) rfl ?_
                  refine zr_goto (pc' := 64) dX12_spreads_217 rfl ?_
                  obtain ⟨n', hn, h⟩ := h
                  exact zn_al ((ih n' hn).2.2 _ _ _ _ _ h) ⟨rfl, rfl, rfl, rfl, rfl, trivial⟩
          · have h := h.2.2 hc
            refine zr_aload_n (pc' := 85) (i := 0) dX12_spreads_84 rfl rfl rfl ?_
            refine zr_get (pc' := 88) dX12_spreads_85 rfl ps_102 kd_102 fl_X12_187 kc_12 (gv_102_88 _) ?_
            refine zr_iload (pc' := 90) dX12_spreads_88 rfl rfl ?_
            refine zr_iald (pc' := 91) dX12_spreads_90 rfl ps_158 kd_158 (by decide) h.1.1 h.1.2 ?_
            have h := h.2
            refine zr_if_le (tgt := 143) (pc' := 94) dX12_spreads_91 rfl rfl h.1 (fun hc => ?_) (fun hc => ?_)
            · have h := h.2.1 hc
              refine zr_aload_n (pc' := 144) (i := 0) dX12_spreads_143 rfl rfl rfl ?_
              refine zr_get (pc' := 147) dX12_spreads_144 rfl ps_102 kd_102 fl_X12_184 kc_12 (gv_102_87 _) ?_
              refine zr_iload (pc' := 149) dX12_spreads_147 rfl rfl ?_
              refine zr_iald (pc' := 150) dX12_spreads_149 rfl ps_157 kd_157 (by decide) h.1.1 h.1.2 ?_
              have h := h.2
              refine zr_iload_n (pc' := 151) (i := 3) dX12_spreads_150 rfl rfl rfl ?_
              refine zr_icmp_ne (tgt := 214) (pc' := 154) dX12_spreads_151 rfl rfl h.1.1 h.1.2 (fun hc => ?_) (fun hc => ?_)
              · have h := h.2.1 hc
                refine zr_iinc (pc' := 217) (al' := [(4, .inl (l4 + 1)), (0, .inr (.inr 102)), (1, .inl l1), (2, .inl l2), (3, .inl l3)]) dX12_spreads_214 rfl rfl (by decide) rfl ?_
                refine zr_goto (pc' := 64) dX12_spreads_217 rfl ?_
                obtain ⟨n', hn, h⟩ := h
                exact zn_al ((ih n' hn).2.2 _ _ _ _ _ h) ⟨rfl, rfl, rfl, rfl, rfl, trivial⟩
              · have h := h.2.2 hc
                refine zr_aload_n (pc' := 155) (i := 0) dX12_spreads_154 rfl rfl rfl ?_
                refine zr_get (pc' := 158) dX12_spreads_155 rfl ps_102 kd_102 fl_X12_190 kc_12 (gv_102_89 _) ?_
                refine zr_iload (pc' := 160) dX12_spreads_158 rfl rfl ?_
                refine zr_iald (pc' := 161) dX12_spreads_160 rfl ps_159 kd_159 (by decide) h.1.1 h.1.2 ?_
                have h := h.2
                refine zr_if_le (tgt := 214) (pc' := 164) dX12_spreads_161 rfl rfl h.1 (fun hc => ?_) (fun hc => ?_)
                · have h := h.2.1 hc
                  refine zr_iinc (pc' := 217) (al' := [(4, .inl (l4 + 1)), (0, .inr (.inr 102)), (1, .inl l1), (2, .inl l2), (3, .inl l3)]) dX12_spreads_214 rfl rfl (by decide) rfl ?_
                  refine zr_goto (pc' := 64) dX12_spreads_217 rfl ?_
                  obtain ⟨n', hn, h⟩ := h
                  exact zn_al ((ih n' hn).2.2 _ _ _ _ _ h) ⟨rfl, rfl, rfl, rfl, rfl, trivial⟩
                · have h := h.2.2 hc
                  refine zr_aload_n (pc' := 165) (i := 0) dX12_spreads_164 rfl rfl rfl ?_
                  refine zr_get (pc' := 168) dX12_spreads_165 rfl ps_102 kd_102 fl_X12_193 kc_12 (gv_102_90 _) ?_
                  refine zr_aload_n (pc' := 169) (i := 0) dX12_spreads_168 rfl rfl rfl ?_
                  refine zr_get (pc' := 172) dX12_spreads_169 rfl ps_102 kd_102 fl_X12_181 kc_12 (gv_102_86 _) ?_
                  refine zr_iload (pc' := 174) dX12_spreads_172 rfl rfl ?_
                  refine zr_iald (pc' := 175) dX12_spreads_174 rfl ps_156 kd_156 (by decide) h.1.1 h.1.2 ?_
                  have h := h.2
                  refine zr_iald (pc' := 176) dX12_spreads_175 rfl ps_160 kd_160 (by decide) h.1.1 h.1.2 ?_
                  have h := h.2
                  refine zr_iconst (pc' := 177) dX12_spreads_176 rfl ?_
                  refine zr_icmp_ne (tgt := 214) (pc' := 180) dX12_spreads_177 rfl rfl h.1 (zRd rfl) (fun hc => ?_) (fun hc => ?_)
                  · have h := h.2.1 hc
                    refine zr_iinc (pc' := 217) (al' := [(4, .inl (l4 + 1)), (0, .inr (.inr 102)), (1, .inl l1), (2, .inl l2), (3, .inl l3)]) dX12_spreads_214 rfl rfl (by decide) rfl ?_
                    refine zr_goto (pc' := 64) dX12_spreads_217 rfl ?_
                    obtain ⟨n', hn, h⟩ := h
                    exact zn_al ((ih n' hn).2.2 _ _ _ _ _ h) ⟨rfl, rfl, rfl, rfl, rfl, trivial⟩
                  · have h := h.2.2 hc
                    refine zr_aload_n (pc' := 181) (i := 0) dX12_spreads_180 rfl rfl rfl ?_
                    refine zr_get (pc' := 184) dX12_spreads_181 rfl ps_102 kd_102 fl_X12_193 kc_12 (gv_102_90 _) ?_
                    refine zr_aload_n (pc' := 185) (i := 0) dX12_spreads_184 rfl rfl rfl ?_
                    refine zr_get (pc' := 188) dX12_spreads_185 rfl ps_102 kd_102 fl_X12_181 kc_12 (gv_102_86 _) ?_
                    refine zr_iload (pc' := 190) dX12_spreads_188 rfl rfl ?_
                    refine zr_iald (pc' := 191) dX12_spreads_190 rfl ps_156 kd_156 (by decide) h.1.1 h.1.2 ?_
                    have h := h.2
                    refine zr_ldcw (pc' := 194) (x := 1000001) dX12_spreads_191 rfl ci_X12_493 ?_
                    refine zr_iload (pc' := 196) dX12_spreads_194 rfl rfl ?_
                    refine zr_iadd (pc' := 197) dX12_spreads_196 rfl ?_
                    refine zr_iast (pc' := 198) dX12_spreads_197 rfl ps_160 kd_160 (by decide) h.1.1 h.1.2 (fun M6 hM1 => ?_)
                    have h := h.2 M6 hM1
                    refine zr_aload_n (pc' := 199) (i := 0) dX12_spreads_198 rfl rfl rfl ?_
                    refine zr_get (pc' := 202) dX12_spreads_199 rfl ps_102 kd_102 fl_X12_196 kc_12 (gv_102_91 _) ?_
                    refine zr_iload_n (pc' := 203) (i := 2) dX12_spreads_202 rfl rfl rfl ?_
                    refine zr_aload_n (pc' := 204) (i := 0) dX12_spreads_203 rfl rfl rfl ?_
                    refine zr_get (pc' := 207) dX12_spreads_204 rfl ps_102 kd_102 fl_X12_181 kc_12 (gv_102_86 _) ?_
                    refine zr_iload (pc' := 209) dX12_spreads_207 rfl rfl ?_
                    refine zr_iald (pc' := 210) dX12_spreads_209 rfl ps_156 kd_156 (by decide) h.1.1 h.1.2 ?_
                    have h := h.2
                    refine zr_iast (pc' := 211) dX12_spreads_210 rfl ps_161 kd_161 (by decide) h.1.1 h.1.2 (fun M7 hM1 => ?_)
                    have h := h.2 M7 hM1
                    refine zr_iinc (pc' := 214) (al' := [(2, .inl (l2 + 1)), (0, .inr (.inr 102)), (1, .inl l1), (3, .inl l3), (4, .inl l4)]) dX12_spreads_211 rfl rfl (by decide) rfl ?_
                    refine zr_iinc (pc' := 217) (al' := [(4, .inl (l4 + 1)), (2, .inl (l2 + 1)), (0, .inr (.inr 102)), (1, .inl l1), (3, .inl l3)]) dX12_spreads_214 rfl rfl (by decide) rfl ?_
                    refine zr_goto (pc' := 64) dX12_spreads_217 rfl ?_
                    obtain ⟨n', hn, h⟩ := h
                    exact zn_al ((ih n' hn).2.2 _ _ _ _ _ h) ⟨rfl, rfl, rfl, rfl, rfl, trivial⟩
            · have h := h.2.2 hc
              refine zr_aload_n (pc' := 95) (i := 0) dX12_spreads_94 rfl rfl rfl ?_
              refine zr_get (pc' := 98) dX12_spreads_95 rfl ps_102 kd_102 fl_X12_193 kc_12 (gv_102_90 _) ?_
              refine zr_aload_n (pc' := 99) (i := 0) dX12_spreads_98 rfl rfl rfl ?_
              refine zr_get (pc' := 102) dX12_spreads_99 rfl ps_102 kd_102 fl_X12_184 kc_12 (gv_102_87 _) ?_
              refine zr_iload (pc' := 104) dX12_spreads_102 rfl rfl ?_
              refine zr_iald (pc' := 105) dX12_spreads_104 rfl ps_157 kd_157 (by decide) h.1.1 h.1.2 ?_
              have h := h.2
              refine zr_iald (pc' := 106) dX12_spreads_105 rfl ps_160 kd_160 (by decide) h.1.1 h.1.2 ?_
              have h := h.2
              refine zr_iconst (pc' := 107) dX12_spreads_106 rfl ?_
              refine zr_icmp_ne (tgt := 143) (pc' := 110) dX12_spreads_107 rfl rfl h.1 (zRd rfl) (fun hc => ?_) (fun hc => ?_)
              · have h := h.2.1 hc
                refine zr_aload_n (pc' := 144) (i := 0) dX12_spreads_143 rfl rfl rfl ?_
                refine zr_get (pc' := 147) dX12_spreads_144 rfl ps_102 kd_102 fl_X12_184 kc_12 (gv_102_87 _) ?_
                refine zr_iload (pc' := 149) dX12_spreads_147 rfl rfl ?_
                refine zr_iald (pc' := 150) dX12_spreads_149 rfl ps_157 kd_157 (by decide) h.1.1 h.1.2 ?_
                have h := h.2
                refine zr_iload_n (pc' := 151) (i := 3) dX12_spreads_150 rfl rfl rfl ?_
                refine zr_icmp_ne (tgt := 214) (pc' := 154) dX12_spreads_151 rfl rfl h.1.1 h.1.2 (fun hc => ?_) (fun hc => ?_)
                · have h := h.2.1 hc
                  refine zr_iinc (pc' := 217) (al' := [(4, .inl (l4 + 1)), (0, .inr (.inr 102)), (1, .inl l1), (2, .inl l2), (3, .inl l3)]) dX12_spreads_214 rfl rfl (by decide) rfl ?_
                  refine zr_goto (pc' := 64) dX12_spreads_217 rfl ?_
                  obtain ⟨n', hn, h⟩ := h
                  exact zn_al ((ih n' hn).2.2 _ _ _ _ _ h) ⟨rfl, rfl, rfl, rfl, rfl, trivial⟩
                · have h := h.2.2 hc
                  refine zr_aload_n (pc' := 155) (i := 0) dX12_spreads_154 rfl rfl rfl ?_
                  refine zr_get (pc' := 158) dX12_spreads_155 rfl ps_102 kd_102 fl_X12_190 kc_12 (gv_102_89 _) ?_
                  refine zr_iload (pc' := 160) dX12_spreads_158 rfl rfl ?_
                  refine zr_iald (pc' := 161) dX12_spreads_160 rfl ps_159 kd_159 (by decide) h.1.1 h.1.2 ?_
                  have h := h.2
                  refine zr_if_le (tgt := 214) (pc' := 164) dX12_spreads_161 rfl rfl h.1 (fun hc => ?_) (fun hc => ?_)
                  · have h := h.2.1 hc
                    refine zr_iinc (pc' := 217) (al' := [(4, .inl (l4 + 1)), (0, .inr (.inr 102)), (1, .inl l1), (2, .inl l2), (3, .inl l3)]) dX12_spreads_214 rfl rfl (by decide) rfl ?_
                    refine zr_goto (pc' := 64) dX12_spreads_217 rfl ?_
                    obtain ⟨n', hn, h⟩ := h
                    exact zn_al ((ih n' hn).2.2 _ _ _ _ _ h) ⟨rfl, rfl, rfl, rfl, rfl, trivial⟩
                  · have h := h.2.2 hc
                    refine zr_aload_n (pc' := 165) (i := 0) dX12_spreads_164 rfl rfl rfl ?_
                    refine zr_get (pc' := 168) dX12_spreads_165 rfl ps_102 kd_102 fl_X12_193 kc_12 (gv_102_90 _) ?_
                    refine zr_aload_n (pc' := 169) (i := 0) dX12_spreads_168 rfl rfl rfl ?_
                    refine zr_get (pc' := 172) dX12_spreads_169 rfl ps_102 kd_102 fl_X12_181 kc_12 (gv_102_86 _) ?_
                    refine zr_iload (pc' := 174) dX12_spreads_172 rfl rfl ?_
                    refine zr_iald (pc' := 175) dX12_spreads_174 rfl ps_156 kd_156 (by decide) h.1.1 h.1.2 ?_
                    have h := h.2
                    refine zr_iald (pc' := 176) dX12_spreads_175 rfl ps_160 kd_160 (by decide) h.1.1 h.1.2 ?_
                    have h := h.2
                    refine zr_iconst (pc' := 177) dX12_spreads_176 rfl ?_
                    refine zr_icmp_ne (tgt := 214) (pc' := 180) dX12_spreads_177 rfl rfl h.1 (zRd rfl) (fun hc => ?_) (fun hc => ?_)
                    · have h := h.2.1 hc
                      refine zr_iinc (pc' := 217) (al' := [(4, .inl (l4 + 1)), (0, .inr (.inr 102)), (1, .inl l1), (2, .inl l2), (3, .inl l3)]) dX12_spreads_214 rfl rfl (by decide) rfl ?_
                      refine zr_goto (pc' := 64) dX12_spreads_217 rfl ?_
                      obtain ⟨n', hn, h⟩ := h
                      exact zn_al ((ih n' hn).2.2 _ _ _ _ _ h) ⟨rfl, rfl, rfl, rfl, rfl, trivial⟩
                    · have h := h.2.2 hc
                      refine zr_aload_n (pc' := 181) (i := 0) dX12_spreads_180 rfl rfl rfl ?_
                      refine zr_get (pc' := 184) dX12_spreads_181 rfl ps_102 kd_102 fl_X12_193 kc_12 (gv_102_90 _) ?_
                      refine zr_aload_n (pc' := 185) (i := 0) dX12_spreads_184 rfl rfl rfl ?_
                      refine zr_get (pc' := 188) dX12_spreads_185 rfl ps_102 kd_102 fl_X12_181 kc_12 (gv_102_86 _) ?_
                      refine zr_iload (pc' := 190) dX12_spreads_188 rfl rfl ?_
                      refine zr_iald (pc' := 191) dX12_spreads_190 rfl ps_156 kd_156 (by decide) h.1.1 h.1.2 ?_
                      have h := h.2
                      refine zr_ldcw (pc' := 194) (x := 1000001) dX12_spreads_191 rfl ci_X12_493 ?_
                      refine zr_iload (pc' := 196) dX12_spreads_194 rfl rfl ?_
                      refine zr_iadd (pc' := 197) dX12_spreads_196 rfl ?_
                      refine zr_iast (pc' := 198) dX12_spreads_197 rfl ps_160 kd_160 (by decide) h.1.1 h.1.2 (fun M8 hM1 => ?_)
                      have h := h.2 M8 hM1
                      refine zr_aload_n (pc' := 199) (i := 0) dX12_spreads_198 rfl rfl rfl ?_
                      refine zr_get (pc' := 202) dX12_spreads_199 rfl ps_102 kd_102 fl_X12_196 kc_12 (gv_102_91 _) ?_
                      refine zr_iload_n (pc' := 203) (i := 2) dX12_spreads_202 rfl rfl rfl ?_
                      refine zr_aload_n (pc' := 204) (i := 0) dX12_spreads_203 rfl rfl rfl ?_
                      refine zr_get (pc' := 207) dX12_spreads_204 rfl ps_102 kd_102 fl_X12_181 kc_12 (gv_102_86 _) ?_
                      refine zr_iload (pc' := 209) dX12_spreads_207 rfl rfl ?_
                      refine zr_iald (pc' := 210) dX12_spreads_209 rfl ps_156 kd_156 (by decide) h.1.1 h.1.2 ?_
                      have h := h.2
                      refine zr_iast (pc' := 211) dX12_spreads_210 rfl ps_161 kd_161 (by decide) h.1.1 h.1.2 (fun M9 hM1 => ?_)
                      have h := h.2 M9 hM1
                      refine zr_iinc (pc' := 214) (al' := [(2, .inl (l2 + 1)), (0, .inr (.inr 102)), (1, .inl l1), (3, .inl l3), (4, .inl l4)]) dX12_spreads_211 rfl rfl (by decide) rfl ?_
                      refine zr_iinc (pc' := 217) (al' := [(4, .inl (l4 + 1)), (2, .inl (l2 + 1)), (0, .inr (.inr 102)), (1, .inl l1), (3, .inl l3)]) dX12_spreads_214 rfl rfl (by decide) rfl ?_
                      refine zr_goto (pc' := 64) dX12_spreads_217 rfl ?_
                      obtain ⟨n', hn, h⟩ := h
                      exact zn_al ((ih n' hn).2.2 _ _ _ _ _ h) ⟨rfl, rfl, rfl, rfl, rfl, trivial⟩
              · have h := h.2.2 hc
                refine zr_aload_n (pc' := 111) (i := 0) dX12_spreads_110 rfl rfl rfl ?_
                refine zr_get (pc' := 114) dX12_spreads_111 rfl ps_102 kd_102 fl_X12_193 kc_12 (gv_102_90 _) ?_
                refine zr_aload_n (pc' := 115) (i := 0) dX12_spreads_114 rfl rfl rfl ?_
                refine zr_get (pc' := 118) dX12_spreads_115 rfl ps_102 kd_102 fl_X12_184 kc_12 (gv_102_87 _) ?_
                refine zr_iload (pc' := 120) dX12_spreads_118 rfl rfl ?_
                refine zr_iald (pc' := 121) dX12_spreads_120 rfl ps_157 kd_157 (by decide) h.1.1 h.1.2 ?_
                have h := h.2
                refine zr_iload (pc' := 123) dX12_spreads_121 rfl rfl ?_
                refine zr_iast (pc' := 124) dX12_spreads_123 rfl ps_160 kd_160 (by decide) h.1.1 h.1.2 (fun M10 hM1 => ?_)
                have h := h.2 M10 hM1
                refine zr_aload_n (pc' := 125) (i := 0) dX12_spreads_124 rfl rfl rfl ?_
                refine zr_get (pc' := 128) dX12_spreads_125 rfl ps_102 kd_102 fl_X12_196 kc_12 (gv_102_91 _) ?_
                refine zr_iload_n (pc' := 129) (i := 2) dX12_spreads_128 rfl rfl rfl ?_
                refine zr_aload_n (pc' := 130) (i := 0) dX12_spreads_129 rfl rfl rfl ?_
                refine zr_get (pc' := 133) dX12_spreads_130 rfl ps_102 kd_102 fl_X12_184 kc_12 (gv_102_87 _) ?_
                refine zr_iload (pc' := 135) dX12_spreads_133 rfl rfl ?_
                refine zr_iald (pc' := 136) dX12_spreads_135 rfl ps_157 kd_157 (by decide) h.1.1 h.1.2 ?_
                have h := h.2
                refine zr_iast (pc' := 137) dX12_spreads_136 rfl ps_161 kd_161 (by decide) h.1.1 h.1.2 (fun M11 hM1 => ?_)
                have h := h.2 M11 hM1
                refine zr_iinc (pc' := 140) (al' := [(2, .inl (l2 + 1)), (0, .inr (.inr 102)), (1, .inl l1), (3, .inl l3), (4, .inl l4)]) dX12_spreads_137 rfl rfl (by decide) rfl ?_
                refine zr_goto (pc' := 214) dX12_spreads_140 rfl ?_
                refine zr_iinc (pc' := 217) (al' := [(4, .inl (l4 + 1)), (2, .inl (l2 + 1)), (0, .inr (.inr 102)), (1, .inl l1), (3, .inl l3)]) dX12_spreads_214 rfl rfl (by decide) rfl ?_
                refine zr_goto (pc' := 64) dX12_spreads_217 rfl ?_
                obtain ⟨n', hn, h⟩ := h
                exact zn_al ((ih n' hn).2.2 _ _ _ _ _ h) ⟨rfl, rfl, rfl, rfl, rfl, trivial⟩
  refine zP_of (by decide +kernel) rfl (Nat.le_of_ble_eq_true rfl) ?_
  show zA E zNN (0, 0) mX12_spreads 0 [(0, .inr (.inr 102))] [] M (zQ Q)
  refine zr_iconst (pc' := 1) dX12_spreads_0 rfl ?_
  refine zr_istore_n (pc' := 2) (i := 1) (al' := [(1, .inl 0), (0, .inr (.inr 102))]) dX12_spreads_1 rfl rfl (by decide) rfl ?_
  obtain ⟨n', h⟩ := h
  exact zn_al ((key n').1 _ _ h) ⟨rfl, rfl, trivial⟩
set_option maxRecDepth 20000 in
theorem vcX12_pushes {E : zE} {M : zM} {Q : Int → zM → Prop} (I8 : Nat → Int → Int → zM → Prop) (I125 : Nat → Int → Int → zM → Prop)
    (h : ∃ n', I8 n' 1000000 401 M)
    (h8 : ∀ (n : Nat) (l1 l2 : Int) (M : zM), I8 n l1 l2 M → ((zR l2) ∧ ((l2 = 400 → ∃ n', n' < n ∧ I125 n' l1 401 M) ∧ (¬ l2 = 400 → (0 ≤ l2 ∧ l2 < 402) ∧ ((zR (M 160 l2.toNat)) ∧ (((M 160 l2.toNat) ≤ 1000000 → (0 ≤ l2 ∧ l2 < 402) ∧ (0 ≤ M 160 l2.toNat ∧ M 160 l2.toNat < 1400) ∧ ((zR (M 158 ((M 160 l2.toNat).toNat)) ∧ zR l1) ∧ ((l1 ≤ (M 158 ((M 160 l2.toNat).toNat)) → (0 ≤ M 160 l2.toNat ∧ M 160 l2.toNat < 1400) ∧ ∃ n', n' < n ∧ I8 n' l1 (M 156 ((M 160 l2.toNat).toNat)) M) ∧ ((M 158 ((M 160 l2.toNat).toNat)) < l1 → (0 ≤ M 160 l2.toNat ∧ M 160 l2.toNat < 1400) ∧ ∃ n', n' < n ∧ I8 n' (M 158 ((M 160 l2.toNat).toNat)) (M 156 ((M 160 l2.toNat).toNat)) M)))) ∧ (1000000 < (M 160 l2.toNat) → (0 ≤ l2 ∧ l2 < 402) ∧ (0 ≤ ((M 160 l2.toNat) - 1000000) - 1 ∧ ((M 160 l2.toNat) - 1000000) - 1 < 1400) ∧ ((zR (M 159 ((((M 160 l2.toNat) - 1000000) - 1).toNat)) ∧ zR l1) ∧ ((l1 ≤ (M 159 ((((M 160 l2.toNat) - 1000000) - 1).toNat)) → (0 ≤ ((M 160 l2.toNat) - 1000000) - 1 ∧ ((M 160 l2.toNat) - 1000000) - 1 < 1400) ∧ ∃ n', n' < n ∧ I8 n' l1 (M 157 ((((M 160 l2.toNat) - 1000000) - 1).toNat)) M) ∧ ((M 159 ((((M 160 l2.toNat) - 1000000) - 1).toNat)) < l1 → (0 ≤ ((M 160 l2.toNat) - 1000000) - 1 ∧ ((M 160 l2.toNat) - 1000000) - 1 < 1400) ∧ ∃ n', n' < n ∧ I8 n' (M 159 ((((M 160 l2.toNat) - 1000000) - 1).toNat)) (M 157 ((((M 160 l2.toNat) - 1000000) - 1).toNat)) M))))))))))
    (h125 : ∀ (n : Nat) (l1 l2 : Int) (M : zM), I125 n l1 l2 M → ((zR l2) ∧ ((l2 = 400 → Q l1 M) ∧ (¬ l2 = 400 → (0 ≤ l2 ∧ l2 < 402) ∧ ((zR (M 160 l2.toNat)) ∧ (((M 160 l2.toNat) ≤ 1000000 → (0 ≤ l2 ∧ l2 < 402) ∧ (0 ≤ M 160 l2.toNat ∧ M 160 l2.toNat < 1400) ∧ (0 ≤ M 160 l2.toNat ∧ M 160 l2.toNat < 1400) ∧ (∀ M1, M1 = zup M 158 ((M 160 l2.toNat).toNat) ((M 158 ((M 160 l2.toNat).toNat)) + (-l1)) → (0 ≤ M 160 l2.toNat ∧ M 160 l2.toNat < 1400) ∧ (0 ≤ M 160 l2.toNat ∧ M 160 l2.toNat < 1400) ∧ (∀ M2, M2 = zup M1 159 ((M 160 l2.toNat).toNat) ((M1 159 ((M 160 l2.toNat).toNat)) + l1) → (0 ≤ M 160 l2.toNat ∧ M 160 l2.toNat < 1400) ∧ ∃ n', n' < n ∧ I125 n' l1 (M2 156 ((M 160 l2.toNat).toNat)) M2))) ∧ (1000000 < (M 160 l2.toNat) → (0 ≤ l2 ∧ l2 < 402) ∧ (0 ≤ ((M 160 l2.toNat) - 1000000) - 1 ∧ ((M 160 l2.toNat) - 1000000) - 1 < 1400) ∧ (0 ≤ ((M 160 l2.toNat) - 1000000) - 1 ∧ ((M 160 l2.toNat) - 1000000) - 1 < 1400) ∧ (∀ M3, M3 = zup M 158 ((((M 160 l2.toNat) - 1000000) - 1).toNat) ((M 158 ((((M 160 l2.toNat) - 1000000) - 1).toNat)) + l1) → (0 ≤ ((M 160 l2.toNat) - 1000000) - 1 ∧ ((M 160 l2.toNat) - 1000000) - 1 < 1400) ∧ (0 ≤ ((M 160 l2.toNat) - 1000000) - 1 ∧ ((M 160 l2.toNat) - 1000000) - 1 < 1400) ∧ (∀ M4, M4 = zup M3 159 ((((M 160 l2.toNat) - 1000000) - 1).toNat) ((M3 159 ((((M 160 l2.toNat) - 1000000) - 1).toNat)) + (-l1)) → (0 ≤ ((M 160 l2.toNat) - 1000000) - 1 ∧ ((M 160 l2.toNat) - 1000000) - 1 < 1400) ∧ ∃ n', n' < n ∧ I125 n' l1 (M4 157 ((((M 160 l2.toNat) - 1000000) - 1).toNat)) M4)))))))))
    : zP E mX12_pushes [.inr (.inr 102)] M Q := by
  have key : ∀ n : Nat, (∀ (l1 l2 : Int) (M : zM), I8 n l1 l2 M → zA E zNN (0, 0) mX12_pushes 8 [(0, .inr (.inr 102)), (1, .inl l1), (2, .inl l2)] [] M (zQ Q)) ∧ (∀ (l1 l2 : Int) (M : zM), I125 n l1 l2 M → zA E zNN (0, 0) mX12_pushes 125 [(0, .inr (.inr 102)), (1, .inl l1), (2, .inl l2)] [] M (zQ Q)) := by
    intro n
    induction n using Nat.strongRecOn with
    | ind n ih =>
      refine ⟨?_, ?_⟩
      · intro l1 l2 M h
        have h := h8 n l1 l2 M h
        refine zr_iload_n (pc' := 9) (i := 2) dX12_pushes_8 rfl rfl rfl ?_
        refine zr_sipush (pc' := 12) dX12_pushes_9 rfl rfl ?_
        refine zr_icmp_eq (tgt := 121) (pc' := 15) dX12_pushes_12 rfl rfl h.1 (zRd rfl) (fun hc => ?_) (fun hc => ?_)
        · have h := h.2.1 hc
          refine zr_sipush (pc' := 124) dX12_pushes_121 rfl rfl ?_
          refine zr_istore_n (pc' := 125) (i := 2) (al' := [(2, .inl 401), (0, .inr (.inr 102)), (1, .inl l1)]) dX12_pushes_124 rfl rfl (by decide) rfl ?_
          obtain ⟨n', hn, h⟩ := h
          exact zn_al ((ih n' hn).2 _ _ _ h) ⟨rfl, rfl, rfl, trivial⟩
        · have h := h.2.2 hc
          refine zr_aload_n (pc' := 16) (i := 0) dX12_pushes_15 rfl rfl rfl ?_
          refine zr_get (pc' := 19) dX12_pushes_16 rfl ps_102 kd_102 fl_X12_193 kc_12 (gv_102_90 _) ?_
          refine zr_iload_n (pc' := 20) (i := 2) dX12_pushes_19 rfl rfl rfl ?_
          refine zr_iald (pc' := 21) dX12_pushes_20 rfl ps_160 kd_160 (by decide) h.1.1 h.1.2 ?_
          have h := h.2
          refine zr_ldcw (pc' := 24) (x := 1000000) dX12_pushes_21 rfl ci_X12_467 ?_
          refine zr_icmp_le (tgt := 31) (pc' := 27) dX12_pushes_24 rfl rfl h.1 (zRd rfl) (fun hc => ?_) (fun hc => ?_)
          · have h := h.2.1 hc
            refine zr_iconst (pc' := 32) dX12_pushes_31 rfl ?_
            refine zr_istore_n (pc' := 33) (i := 3) (al' := [(3, .inl 0), (0, .inr (.inr 102)), (1, .inl l1), (2, .inl l2)]) dX12_pushes_32 rfl rfl (by decide) rfl ?_
            refine zr_iload_n (pc' := 34) (i := 3) dX12_pushes_33 rfl rfl rfl ?_
            refine zr_if_eq (tgt := 52) (pc' := 37) dX12_pushes_34 rfl rfl (zRd rfl) (fun _ => ?_) (fun hc => absurd hc (by decide))
            refine zr_aload_n (pc' := 53) (i := 0) dX12_pushes_52 rfl rfl rfl ?_
            refine zr_get (pc' := 56) dX12_pushes_53 rfl ps_102 kd_102 fl_X12_193 kc_12 (gv_102_90 _) ?_
            refine zr_iload_n (pc' := 57) (i := 2) dX12_pushes_56 rfl rfl rfl ?_
            refine zr_iald (pc' := 58) dX12_pushes_57 rfl ps_160 kd_160 (by decide) h.1.1 h.1.2 ?_
            have h := h.2
            refine zr_istore (pc' := 60) (al' := [(4, .inl (M 160 l2.toNat)), (3, .inl 0), (0, .inr (.inr 102)), (1, .inl l1), (2, .inl l2)]) dX12_pushes_58 rfl (by decide) rfl ?_
            refine zr_iload_n (pc' := 61) (i := 3) dX12_pushes_60 rfl rfl rfl ?_
            refine zr_if_eq (tgt := 74) (pc' := 64) dX12_pushes_61 rfl rfl (zRd rfl) (fun _ => ?_) (fun hc => absurd hc (by decide))
            refine zr_aload_n (pc' := 75) (i := 0) dX12_pushes_74 rfl rfl rfl ?_
            refine zr_get (pc' := 78) dX12_pushes_75 rfl ps_102 kd_102 fl_X12_187 kc_12 (gv_102_88 _) ?_
            refine zr_iload (pc' := 80) dX12_pushes_78 rfl rfl ?_
            refine zr_iald (pc' := 81) dX12_pushes_80 rfl ps_158 kd_158 (by decide) h.1.1 h.1.2 ?_
            have h := h.2
            refine zr_istore (pc' := 83) (al' := [(5, .inl (M 158 ((M 160 l2.toNat).toNat))), (4, .inl (M 160 l2.toNat)), (3, .inl 0), (0, .inr (.inr 102)), (1, .inl l1), (2, .inl l2)]) dX12_pushes_81 rfl (by decide) rfl ?_
            refine zr_iload (pc' := 85) dX12_pushes_83 rfl rfl ?_
            refine zr_iload_n (pc' := 86) (i := 1) dX12_pushes_85 rfl rfl rfl ?_
            refine zr_icmp_ge (tgt := 94) (pc' := 89) dX12_pushes_86 rfl rfl h.1.1 h.1.2 (fun hc => ?_) (fun hc => ?_)
            · have h := h.2.1 hc
              refine zr_iload_n (pc' := 95) (i := 1) dX12_pushes_94 rfl rfl rfl ?_
              refine zr_istore_n (pc' := 96) (i := 1) (al' := [(1, .inl l1), (5, .inl (M 158 ((M 160 l2.toNat).toNat))), (4, .inl (M 160 l2.toNat)), (3, .inl 0), (0, .inr (.inr 102)), (2, .inl l2)]) dX12_pushes_95 rfl rfl (by decide) rfl ?_
              refine zr_iload_n (pc' := 97) (i := 3) dX12_pushes_96 rfl rfl rfl ?_
              refine zr_if_eq (tgt := 110) (pc' := 100) dX12_pushes_97 rfl rfl (zRd rfl) (fun _ => ?_) (fun hc => absurd hc (by decide))
              refine zr_aload_n (pc' := 111) (i := 0) dX12_pushes_110 rfl rfl rfl ?_
              refine zr_get (pc' := 114) dX12_pushes_111 rfl ps_102 kd_102 fl_X12_181 kc_12 (gv_102_86 _) ?_
              refine zr_iload (pc' := 116) dX12_pushes_114 rfl rfl ?_
              refine zr_iald (pc' := 117) dX12_pushes_116 rfl ps_156 kd_156 (by decide) h.1.1 h.1.2 ?_
              have h := h.2
              refine zr_istore_n (pc' := 118) (i := 2) (al' := [(2, .inl (M 156 ((M 160 l2.toNat).toNat))), (1, .inl l1), (5, .inl (M 158 ((M 160 l2.toNat).toNat))), (4, .inl (M 160 l2.toNat)), (3, .inl 0), (0, .inr (.inr 102))]) dX12_pushes_117 rfl rfl (by decide) rfl ?_
              refine zr_goto (pc' := 8) dX12_pushes_118 rfl ?_
              obtain ⟨n', hn, h⟩ := h
              exact zn_al ((ih n' hn).1 _ _ _ h) ⟨rfl, rfl, rfl, trivial⟩
            · have h := h.2.2 hc
              refine zr_iload (pc' := 91) dX12_pushes_89 rfl rfl ?_
              refine zr_goto (pc' := 95) dX12_pushes_91 rfl ?_
              refine zr_istore_n (pc' := 96) (i := 1) (al' := [(1, .inl (M 158 ((M 160 l2.toNat).toNat))), (5, .inl (M 158 ((M 160 l2.toNat).toNat))), (4, .inl (M 160 l2.toNat)), (3, .inl 0), (0, .inr (.inr 102)), (2, .inl l2)]) dX12_pushes_95 rfl rfl (by decide) rfl ?_
              refine zr_iload_n (pc' := 97) (i := 3) dX12_pushes_96 rfl rfl rfl ?_
              refine zr_if_eq (tgt := 110) (pc' := 100) dX12_pushes_97 rfl rfl (zRd rfl) (fun _ => ?_) (fun hc => absurd hc (by decide))
              refine zr_aload_n (pc' := 111) (i := 0) dX12_pushes_110 rfl rfl rfl ?_
              refine zr_get (pc' := 114) dX12_pushes_111 rfl ps_102 kd_102 fl_X12_181 kc_12 (gv_102_86 _) ?_
              refine zr_iload (pc' := 116) dX12_pushes_114 rfl rfl ?_
              refine zr_iald (pc' := 117) dX12_pushes_116 rfl ps_156 kd_156 (by decide) h.1.1 h.1.2 ?_
              have h := h.2
              refine zr_istore_n (pc' := 118) (i := 2) (al' := [(2, .inl (M 156 ((M 160 l2.toNat).toNat))), (1, .inl (M 158 ((M 160 l2.toNat).toNat))), (5, .inl (M 158 ((M 160 l2.toNat).toNat))), (4, .inl (M 160 l2.toNat)), (3, .inl 0), (0, .inr (.inr 102))]) dX12_pushes_117 rfl rfl (by decide) rfl ?_
              refine zr_goto (pc' := 8) dX12_pushes_118 rfl ?_
              obtain ⟨n', hn, h⟩ := h
              exact zn_al ((ih n' hn).1 _ _ _ h) ⟨rfl, rfl, rfl, trivial⟩
          · have h := h.2.2 hc
            refine zr_iconst (pc' := 28) dX12_pushes_27 rfl ?_
            refine zr_goto (pc' := 32) dX12_pushes_28 rfl ?_
            refine zr_istore_n (pc' := 33) (i := 3) (al' := [(3, .inl 1), (0, .inr (.inr 102)), (1, .inl l1), (2, .inl l2)]) dX12_pushes_32 rfl rfl (by decide) rfl ?_
            refine zr_iload_n (pc' := 34) (i := 3) dX12_pushes_33 rfl rfl rfl ?_
            refine zr_if_eq (tgt := 52) (pc' := 37) dX12_pushes_34 rfl rfl (zRd rfl) (fun hc => absurd hc (by decide)) (fun _ => ?_)
            refine zr_aload_n (pc' := 38) (i := 0) dX12_pushes_37 rfl rfl rfl ?_
            refine zr_get (pc' := 41) dX12_pushes_38 rfl ps_102 kd_102 fl_X12_193 kc_12 (gv_102_90 _) ?_
            refine zr_iload_n (pc' := 42) (i := 2) dX12_pushes_41 rfl rfl rfl ?_
            refine zr_iald (pc' := 43) dX12_pushes_42 rfl ps_160 kd_160 (by decide) h.1.1 h.1.2 ?_
            have h := h.2
            refine zr_ldcw (pc' := 46) (x := 1000000) dX12_pushes_43 rfl ci_X12_467 ?_
            refine zr_isub (pc' := 47) dX12_pushes_46 rfl ?_
            refine zr_iconst (pc' := 48) dX12_pushes_47 rfl ?_
            refine zr_isub (pc' := 49) dX12_pushes_48 rfl ?_
            refine zr_goto (pc' := 58) dX12_pushes_49 rfl ?_
            refine zr_istore (pc' := 60) (al' := [(4, .inl (((M 160 l2.toNat) - 1000000) - 1)), (3, .inl 1), (0, .inr (.inr 102)), (1, .inl l1), (2, .inl l2)]) dX12_pushes_58 rfl (by decide) rfl ?_
            refine zr_iload_n (pc' := 61) (i := 3) dX12_pushes_60 rfl rfl rfl ?_
            refine zr_if_eq (tgt := 74) (pc' := 64) dX12_pushes_61 rfl rfl (zRd rfl) (fun hc => absurd hc (by decide)) (fun _ => ?_)
            refine zr_aload_n (pc' := 65) (i := 0) dX12_pushes_64 rfl rfl rfl ?_
            refine zr_get (pc' := 68) dX12_pushes_65 rfl ps_102 kd_102 fl_X12_190 kc_12 (gv_102_89 _) ?_
            refine zr_iload (pc' := 70) dX12_pushes_68 rfl rfl ?_
            refine zr_iald (pc' := 71) dX12_pushes_70 rfl ps_159 kd_159 (by decide) h.1.1 h.1.2 ?_
            have h := h.2
            refine zr_goto (pc' := 81) dX12_pushes_71 rfl ?_
            refine zr_istore (pc' := 83) (al' := [(5, .inl (M 159 ((((M 160 l2.toNat) - 1000000) - 1).toNat))), (4, .inl (((M 160 l2.toNat) - 1000000) - 1)), (3, .inl 1), (0, .inr (.inr 102)), (1, .inl l1), (2, .inl l2)]) dX12_pushes_81 rfl (by decide) rfl ?_
            refine zr_iload (pc' := 85) dX12_pushes_83 rfl rfl ?_
            refine zr_iload_n (pc' := 86) (i := 1) dX12_pushes_85 rfl rfl rfl ?_
            refine zr_icmp_ge (tgt := 94) (pc' := 89) dX12_pushes_86 rfl rfl h.1.1 h.1.2 (fun hc => ?_) (fun hc => ?_)
            · have h := h.2.1 hc
              refine zr_iload_n (pc' := 95) (i := 1) dX12_pushes_94 rfl rfl rfl ?_
              refine zr_istore_n (pc' := 96) (i := 1) (al' := [(1, .inl l1), (5, .inl (M 159 ((((M 160 l2.toNat) - 1000000) - 1).toNat))), (4, .inl (((M 160 l2.toNat) - 1000000) - 1)), (3, .inl 1), (0, .inr (.inr 102)), (2, .inl l2)]) dX12_pushes_95 rfl rfl (by decide) rfl ?_
              refine zr_iload_n (pc' := 97) (i := 3) dX12_pushes_96 rfl rfl rfl ?_
              refine zr_if_eq (tgt := 110) (pc' := 100) dX12_pushes_97 rfl rfl (zRd rfl) (fun hc => absurd hc (by decide)) (fun _ => ?_)
              refine zr_aload_n (pc' := 101) (i := 0) dX12_pushes_100 rfl rfl rfl ?_
              refine zr_get (pc' := 104) dX12_pushes_101 rfl ps_102 kd_102 fl_X12_184 kc_12 (gv_102_87 _) ?_
              refine zr_iload (pc' := 106) dX12_pushes_104 rfl rfl ?_
              refine zr_iald (pc' := 107) dX12_pushes_106 rfl ps_157 kd_157 (by decide) h.1.1 h.1.2 ?_
              have h := h.2
              refine zr_goto (pc' := 117) dX12_pushes_107 rfl ?_
              refine zr_istore_n (pc' := 118) (i := 2) (al' := [(2, .inl (M 157 ((((M 160 l2.toNat) - 1000000) - 1).toNat))), (1, .inl l1), (5, .inl (M 159 ((((M 160 l2.toNat) - 1000000) - 1).toNat))), (4, .inl (((M 160 l2.toNat) - 1000000) - 1)), (3, .inl 1), (0, .inr (.inr 102))]) dX12_pushes_117 rfl rfl (by decide) rfl ?_
              refine zr_goto (pc' := 8) dX12_pushes_118 rfl ?_
              obtain ⟨n', hn, h⟩ := h
              exact zn_al ((ih n' hn).1 _ _ _ h) ⟨rfl, rfl, rfl, trivial⟩
            · have h := h.2.2 hc
              refine zr_iload (pc' := 91) dX12_pushes_89 rfl rfl ?_
              refine zr_goto (pc' := 95) dX12_pushes_91 rfl ?_
              refine zr_istore_n (pc' := 96) (i := 1) (al' := [(1, .inl (M 159 ((((M 160 l2.toNat) - 1000000) - 1).toNat))), (5, .inl (M 159 ((((M 160 l2.toNat) - 1000000) - 1).toNat))), (4, .inl (((M 160 l2.toNat) - 1000000) - 1)), (3, .inl 1), (0, .inr (.inr 102)), (2, .inl l2)]) dX12_pushes_95 rfl rfl (by decide) rfl ?_
              refine zr_iload_n (pc' := 97) (i := 3) dX12_pushes_96 rfl rfl rfl ?_
              refine zr_if_eq (tgt := 110) (pc' := 100) dX12_pushes_97 rfl rfl (zRd rfl) (fun hc => absurd hc (by decide)) (fun _ => ?_)
              refine zr_aload_n (pc' := 101) (i := 0) dX12_pushes_100 rfl rfl rfl ?_
              refine zr_get (pc' := 104) dX12_pushes_101 rfl ps_102 kd_102 fl_X12_184 kc_12 (gv_102_87 _) ?_
              refine zr_iload (pc' := 106) dX12_pushes_104 rfl rfl ?_
              refine zr_iald (pc' := 107) dX12_pushes_106 rfl ps_157 kd_157 (by decide) h.1.1 h.1.2 ?_
              have h := h.2
              refine zr_goto (pc' := 117) dX12_pushes_107 rfl ?_
              refine zr_istore_n (pc' := 118) (i := 2) (al' := [(2, .inl (M 157 ((((M 160 l2.toNat) - 1000000) - 1).toNat))), (1, .inl (M 159 ((((M 160 l2.toNat) - 1000000) - 1).toNat))), (5, .inl (M 159 ((((M 160 l2.toNat) - 1000000) - 1).toNat))), (4, .inl (((M 160 l2.toNat) - 1000000) - 1)), (3, .inl 1), (0, .inr (.inr 102))]) dX12_pushes_117 rfl rfl (by decide) rfl ?_
              refine zr_goto (pc' := 8) dX12_pushes_118 rfl ?_
              obtain ⟨n', hn, h⟩ := h
              exact zn_al ((ih n' hn).1 _ _ _ h) ⟨rfl, rfl, rfl, trivial⟩
      · intro l1 l2 M h
        have h := h125 n l1 l2 M h
        refine zr_iload_n (pc' := 126) (i := 2) dX12_pushes_125 rfl rfl rfl ?_
        refine zr_sipush (pc' := 129) dX12_pushes_126 rfl rfl ?_
        refine zr_icmp_eq (tgt := 242) (pc' := 132) dX12_pushes_129 rfl rfl h.1 (zRd rfl) (fun hc => ?_) (fun hc => ?_)
        · have h := h.2.1 hc
          refine zr_iload_n (pc' := 243) (i := 1) dX12_pushes_242 rfl rfl rfl ?_
          exact zr_ireturn dX12_pushes_243 rfl rfl trivial (Nat.le_refl _) (Nat.le_refl _) (And.intro rfl h)
        · have h := h.2.2 hc
          refine zr_aload_n (pc' := 133) (i := 0) dX12_pushes_132 rfl rfl rfl ?_
          refine zr_get (pc' := 136) dX12_pushes_133 rfl ps_102 kd_102 fl_X12_193 kc_12 (gv_102_90 _) ?_
          refine zr_iload_n (pc' := 137) (i := 2) dX12_pushes_136 rfl rfl rfl ?_
          refine zr_iald (pc' := 138) dX12_pushes_137 rfl ps_160 kd_160 (by decide) h.1.1 h.1.2 ?_
          have h := h.2
          refine zr_ldcw (pc' := 141) (x := 1000000) dX12_pushes_138 rfl ci_X12_467 ?_
          refine zr_icmp_le (tgt := 148) (pc' := 144) dX12_pushes_141 rfl rfl h.1 (zRd rfl) (fun hc => ?_) (fun hc => ?_)
          · have h := h.2.1 hc
            refine zr_iconst (pc' := 149) dX12_pushes_148 rfl ?_
            refine zr_istore_n (pc' := 150) (i := 3) (al' := [(3, .inl 0), (0, .inr (.inr 102)), (1, .inl l1), (2, .inl l2)]) dX12_pushes_149 rfl rfl (by decide) rfl ?_
            refine zr_iload_n (pc' := 151) (i := 3) dX12_pushes_150 rfl rfl rfl ?_
            refine zr_if_eq (tgt := 169) (pc' := 154) dX12_pushes_151 rfl rfl (zRd rfl) (fun _ => ?_) (fun hc => absurd hc (by decide))
            refine zr_aload_n (pc' := 170) (i := 0) dX12_pushes_169 rfl rfl rfl ?_
            refine zr_get (pc' := 173) dX12_pushes_170 rfl ps_102 kd_102 fl_X12_193 kc_12 (gv_102_90 _) ?_
            refine zr_iload_n (pc' := 174) (i := 2) dX12_pushes_173 rfl rfl rfl ?_
            refine zr_iald (pc' := 175) dX12_pushes_174 rfl ps_160 kd_160 (by decide) h.1.1 h.1.2 ?_
            have h := h.2
            refine zr_istore (pc' := 177) (al' := [(4, .inl (M 160 l2.toNat)), (3, .inl 0), (0, .inr (.inr 102)), (1, .inl l1), (2, .inl l2)]) dX12_pushes_175 rfl (by decide) rfl ?_
            refine zr_aload_n (pc' := 178) (i := 0) dX12_pushes_177 rfl rfl rfl ?_
            refine zr_get (pc' := 181) dX12_pushes_178 rfl ps_102 kd_102 fl_X12_187 kc_12 (gv_102_88 _) ?_
            refine zr_iload (pc' := 183) dX12_pushes_181 rfl rfl ?_
            refine zr_dup2 (pc' := 184) dX12_pushes_183 rfl rfl rfl ?_
            refine zr_iald (pc' := 185) dX12_pushes_184 rfl ps_158 kd_158 (by decide) h.1.1 h.1.2 ?_
            have h := h.2
            refine zr_iload_n (pc' := 186) (i := 3) dX12_pushes_185 rfl rfl rfl ?_
            refine zr_if_eq (tgt := 193) (pc' := 189) dX12_pushes_186 rfl rfl (zRd rfl) (fun _ => ?_) (fun hc => absurd hc (by decide))
            refine zr_iload_n (pc' := 194) (i := 1) dX12_pushes_193 rfl rfl rfl ?_
            refine zr_ineg (pc' := 195) dX12_pushes_194 rfl ?_
            refine zr_iadd (pc' := 196) dX12_pushes_195 rfl ?_
            refine zr_iast (pc' := 197) dX12_pushes_196 rfl ps_158 kd_158 (by decide) h.1.1 h.1.2 (fun M1 hM1 => ?_)
            have h := h.2 M1 hM1
            refine zr_aload_n (pc' := 198) (i := 0) dX12_pushes_197 rfl rfl rfl ?_
            refine zr_get (pc' := 201) dX12_pushes_198 rfl ps_102 kd_102 fl_X12_190 kc_12 (gv_102_89 _) ?_
            refine zr_iload (pc' := 203) dX12_pushes_201 rfl rfl ?_
            refine zr_dup2 (pc' := 204) dX12_pushes_203 rfl rfl rfl ?_
            refine zr_iald (pc' := 205) dX12_pushes_204 rfl ps_159 kd_159 (by decide) h.1.1 h.1.2 ?_
            have h := h.2
            refine zr_iload_n (pc' := 206) (i := 3) dX12_pushes_205 rfl rfl rfl ?_
            refine zr_if_eq (tgt := 214) (pc' := 209) dX12_pushes_206 rfl rfl (zRd rfl) (fun _ => ?_) (fun hc => absurd hc (by decide))
            refine zr_iload_n (pc' := 215) (i := 1) dX12_pushes_214 rfl rfl rfl ?_
            refine zr_iadd (pc' := 216) dX12_pushes_215 rfl ?_
            refine zr_iast (pc' := 217) dX12_pushes_216 rfl ps_159 kd_159 (by decide) h.1.1 h.1.2 (fun M2 hM1 => ?_)
            have h := h.2 M2 hM1
            refine zr_iload_n (pc' := 218) (i := 3) dX12_pushes_217 rfl rfl rfl ?_
            refine zr_if_eq (tgt := 231) (pc' := 221) dX12_pushes_218 rfl rfl (zRd rfl) (fun _ => ?_) (fun hc => absurd hc (by decide))
            refine zr_aload_n (pc' := 232) (i := 0) dX12_pushes_231 rfl rfl rfl ?_
            refine zr_get (pc' := 235) dX12_pushes_232 rfl ps_102 kd_102 fl_X12_181 kc_12 (gv_102_86 _) ?_
            refine zr_iload (pc' := 237) dX12_pushes_235 rfl rfl ?_
            refine zr_iald (pc' := 238) dX12_pushes_237 rfl ps_156 kd_156 (by decide) h.1.1 h.1.2 ?_
            have h := h.2
            refine zr_istore_n (pc' := 239) (i := 2) (al' := [(2, .inl (M2 156 ((M 160 l2.toNat).toNat))), (4, .inl (M 160 l2.toNat)), (3, .inl 0), (0, .inr (.inr 102)), (1, .inl l1)]) dX12_pushes_238 rfl rfl (by decide) rfl ?_
            refine zr_goto (pc' := 125) dX12_pushes_239 rfl ?_
            obtain ⟨n', hn, h⟩ := h
            exact zn_al ((ih n' hn).2 _ _ _ h) ⟨rfl, rfl, rfl, trivial⟩
          · have h := h.2.2 hc
            refine zr_iconst (pc' := 145) dX12_pushes_144 rfl ?_
            refine zr_goto (pc' := 149) dX12_pushes_145 rfl ?_
            refine zr_istore_n (pc' := 150) (i := 3) (al' := [(3, .inl 1), (0, .inr (.inr 102)), (1, .inl l1), (2, .inl l2)]) dX12_pushes_149 rfl rfl (by decide) rfl ?_
            refine zr_iload_n (pc' := 151) (i := 3) dX12_pushes_150 rfl rfl rfl ?_
            refine zr_if_eq (tgt := 169) (pc' := 154) dX12_pushes_151 rfl rfl (zRd rfl) (fun hc => absurd hc (by decide)) (fun _ => ?_)
            refine zr_aload_n (pc' := 155) (i := 0) dX12_pushes_154 rfl rfl rfl ?_
            refine zr_get (pc' := 158) dX12_pushes_155 rfl ps_102 kd_102 fl_X12_193 kc_12 (gv_102_90 _) ?_
            refine zr_iload_n (pc' := 159) (i := 2) dX12_pushes_158 rfl rfl rfl ?_
            refine zr_iald (pc' := 160) dX12_pushes_159 rfl ps_160 kd_160 (by decide) h.1.1 h.1.2 ?_
            have h := h.2
            refine zr_ldcw (pc' := 163) (x := 1000000) dX12_pushes_160 rfl ci_X12_467 ?_
            refine zr_isub (pc' := 164) dX12_pushes_163 rfl ?_
            refine zr_iconst (pc' := 165) dX12_pushes_164 rfl ?_
            refine zr_isub (pc' := 166) dX12_pushes_165 rfl ?_
            refine zr_goto (pc' := 175) dX12_pushes_166 rfl ?_
            refine zr_istore (pc' := 177) (al' := [(4, .inl (((M 160 l2.toNat) - 1000000) - 1)), (3, .inl 1), (0, .inr (.inr 102)), (1, .inl l1), (2, .inl l2)]) dX12_pushes_175 rfl (by decide) rfl ?_
            refine zr_aload_n (pc' := 178) (i := 0) dX12_pushes_177 rfl rfl rfl ?_
            refine zr_get (pc' := 181) dX12_pushes_178 rfl ps_102 kd_102 fl_X12_187 kc_12 (gv_102_88 _) ?_
            refine zr_iload (pc' := 183) dX12_pushes_181 rfl rfl ?_
            refine zr_dup2 (pc' := 184) dX12_pushes_183 rfl rfl rfl ?_
            refine zr_iald (pc' := 185) dX12_pushes_184 rfl ps_158 kd_158 (by decide) h.1.1 h.1.2 ?_
            have h := h.2
            refine zr_iload_n (pc' := 186) (i := 3) dX12_pushes_185 rfl rfl rfl ?_
            refine zr_if_eq (tgt := 193) (pc' := 189) dX12_pushes_186 rfl rfl (zRd rfl) (fun hc => absurd hc (by decide)) (fun _ => ?_)
            refine zr_iload_n (pc' := 190) (i := 1) dX12_pushes_189 rfl rfl rfl ?_
            refine zr_goto (pc' := 195) dX12_pushes_190 rfl ?_
            refine zr_iadd (pc' := 196) dX12_pushes_195 rfl ?_
            refine zr_iast (pc' := 197) dX12_pushes_196 rfl ps_158 kd_158 (by decide) h.1.1 h.1.2 (fun M3 hM1 => ?_)
            have h := h.2 M3 hM1
            refine zr_aload_n (pc' := 198) (i := 0) dX12_pushes_197 rfl rfl rfl ?_
            refine zr_get (pc' := 201) dX12_pushes_198 rfl ps_102 kd_102 fl_X12_190 kc_12 (gv_102_89 _) ?_
            refine zr_iload (pc' := 203) dX12_pushes_201 rfl rfl ?_
            refine zr_dup2 (pc' := 204) dX12_pushes_203 rfl rfl rfl ?_
            refine zr_iald (pc' := 205) dX12_pushes_204 rfl ps_159 kd_159 (by decide) h.1.1 h.1.2 ?_
            have h := h.2
            refine zr_iload_n (pc' := 206) (i := 3) dX12_pushes_205 rfl rfl rfl ?_
            refine zr_if_eq (tgt := 214) (pc' := 209) dX12_pushes_206 rfl rfl (zRd rfl) (fun hc => absurd hc (by decide)) (fun _ => ?_)
            refine zr_iload_n (pc' := 210) (i := 1) dX12_pushes_209 rfl rfl rfl ?_
            refine zr_ineg (pc' := 211) dX12_pushes_210 rfl ?_
            refine zr_goto (pc' := 215) dX12_pushes_211 rfl ?_
            refine zr_iadd (pc' := 216) dX12_pushes_215 rfl ?_
            refine zr_iast (pc' := 217) dX12_pushes_216 rfl ps_159 kd_159 (by decide) h.1.1 h.1.2 (fun M4 hM1 => ?_)
            have h := h.2 M4 hM1
            refine zr_iload_n (pc' := 218) (i := 3) dX12_pushes_217 rfl rfl rfl ?_
            refine zr_if_eq (tgt := 231) (pc' := 221) dX12_pushes_218 rfl rfl (zRd rfl) (fun hc => absurd hc (by decide)) (fun _ => ?_)
            refine zr_aload_n (pc' := 222) (i := 0) dX12_pushes_221 rfl rfl rfl ?_
            refine zr_get (pc' := 225) dX12_pushes_222 rfl ps_102 kd_102 fl_X12_184 kc_12 (gv_102_87 _) ?_
            refine zr_iload (pc' := 227) dX12_pushes_225 rfl rfl ?_
            refine zr_iald (pc' := 228) dX12_pushes_227 rfl ps_157 kd_157 (by decide) h.1.1 h.1.2 ?_
            have h := h.2
            refine zr_goto (pc' := 238) dX12_pushes_228 rfl ?_
            refine zr_istore_n (pc' := 239) (i := 2) (al' := [(2, .inl (M4 157 ((((M 160 l2.toNat) - 1000000) - 1).toNat))), (4, .inl (((M 160 l2.toNat) - 1000000) - 1)), (3, .inl 1), (0, .inr (.inr 102)), (1, .inl l1)]) dX12_pushes_238 rfl rfl (by decide) rfl ?_
            refine zr_goto (pc' := 125) dX12_pushes_239 rfl ?_
            obtain ⟨n', hn, h⟩ := h
            exact zn_al ((ih n' hn).2 _ _ _ h) ⟨rfl, rfl, rfl, trivial⟩
  refine zP_of (by decide +kernel) rfl (Nat.le_of_ble_eq_true rfl) ?_
  show zA E zNN (0, 0) mX12_pushes 0 [(0, .inr (.inr 102))] [] M (zQ Q)
  refine zr_ldcw (pc' := 3) (x := 1000000) dX12_pushes_0 rfl ci_X12_467 ?_
  refine zr_istore_n (pc' := 4) (i := 1) (al' := [(1, .inl 1000000), (0, .inr (.inr 102))]) dX12_pushes_3 rfl rfl (by decide) rfl ?_
  refine zr_sipush (pc' := 7) dX12_pushes_4 rfl rfl ?_
  refine zr_istore_n (pc' := 8) (i := 2) (al' := [(2, .inl 401), (1, .inl 1000000), (0, .inr (.inr 102))]) dX12_pushes_7 rfl rfl (by decide) rfl ?_
  obtain ⟨n', h⟩ := h
  exact zn_al ((key n').1 _ _ _ h) ⟨rfl, rfl, rfl, trivial⟩
set_option maxRecDepth 20000 in
theorem vcX12_leads {E : zE} {M : zM} {Q : Int → zM → Prop} (l1 : Int) (I18 : Nat → zM → Prop)
    (h : (zP E mX12_flows [.inr (.inr 102), .inl l1] M (fun r1 M2 => (zP E mX12_lays [.inr (.inr 102), .inl l1] M2 (fun r3 M4 => (∀ M5, M5 = zup M4 102 95 (M4 102 94) → ∃ n', I18 n'  M5))))))
    (h18 : ∀ (n : Nat) (M : zM), I18 n  M → (zP E mX12_spreads [.inr (.inr 102)] M (fun r6 M7 => ((zR r6) ∧ ((r6 = 0 → Q 0 M7) ∧ (¬ r6 = 0 → (zP E mX12_pushes [.inr (.inr 102)] M7 (fun r8 M9 => (∀ M10, M10 = zup M9 102 95 ((M7 102 95) + r8) → ∃ n', n' < n ∧ I18 n'  M10)))))))))
    : zP E mX12_leads [.inr (.inr 102), .inl l1] M Q := by
  have key : ∀ n : Nat, (∀ (M : zM), I18 n  M → zA E zNN (0, 0) mX12_leads 18 [(0, .inr (.inr 102))] [] M (zQ Q)) := by
    intro n
    induction n using Nat.strongRecOn with
    | ind n ih =>
      intro  M h
      have h := h18 n  M h
      refine zr_aload_n (pc' := 19) (i := 0) dX12_leads_18 rfl rfl rfl ?_
      refine zn_callV (pc' := 22) (args := []) (st := []) (st' := fun r6 => [.inl r6]) dX12_leads_19 rfl cv_X12_500 ⟨rfl, rfl, by decide, by decide⟩ rfl ps_102 kd_102 rfl rfl (Nat.le_of_ble_eq_true rfl) (fun _ => rfl) h ?_
      intro r6 M7 h
      refine zr_if_eq (tgt := 41) (pc' := 25) dX12_leads_22 rfl rfl h.1 (fun hc => ?_) (fun hc => ?_)
      · have h := h.2.1 hc
        exact zr_return (x := 0) dX12_leads_41 rfl (Nat.le_refl _) (Nat.le_refl _) (And.intro rfl h)
      · have h := h.2.2 hc
        refine zr_aload_n (pc' := 26) (i := 0) dX12_leads_25 rfl rfl rfl ?_
        refine zr_dup (pc' := 27) dX12_leads_26 rfl rfl ?_
        refine zr_get (pc' := 30) dX12_leads_27 rfl ps_102 kd_102 fl_X12_497 kc_12 (gv_102_95 _) ?_
        refine zr_aload_n (pc' := 31) (i := 0) dX12_leads_30 rfl rfl rfl ?_
        refine zn_callV (pc' := 34) (args := []) (st := [.inl (M7 102 95), .inr (.inr 102)]) (st' := fun r8 => [.inl r8, .inl (M7 102 95), .inr (.inr 102)]) dX12_leads_31 rfl cv_X12_503 ⟨rfl, rfl, by decide, by decide⟩ rfl ps_102 kd_102 rfl rfl (Nat.le_of_ble_eq_true rfl) (fun _ => rfl) h ?_
        intro r8 M9 h
        refine zr_iadd (pc' := 35) dX12_leads_34 rfl ?_
        refine zr_put (pc' := 38) dX12_leads_35 rfl ps_102 kd_102 fl_X12_497 kc_12 rfl nf_102_95 rfl trivial (fun M10 hM1 => ?_)
        have h := h M10 hM1
        refine zr_goto (pc' := 18) dX12_leads_38 rfl ?_
        obtain ⟨n', hn, h⟩ := h
        exact zn_al ((ih n' hn)  _ h) ⟨rfl, trivial⟩
  refine zP_of (by decide +kernel) rfl (Nat.le_of_ble_eq_true rfl) ?_
  show zA E zNN (0, 0) mX12_leads 0 [(0, .inr (.inr 102)), (1, .inl l1)] [] M (zQ Q)
  refine zr_aload_n (pc' := 1) (i := 0) dX12_leads_0 rfl rfl rfl ?_
  refine zr_iload_n (pc' := 2) (i := 1) dX12_leads_1 rfl rfl rfl ?_
  refine zn_callV (pc' := 5) (args := [.inl l1]) (st := []) (st' := fun _ => []) dX12_leads_2 rfl cv_X12_449 ⟨rfl, rfl, by decide, by decide⟩ rfl ps_102 kd_102 rfl rfl (Nat.le_of_ble_eq_true rfl) (fun _ => rfl) h ?_
  intro r1 M2 h
  refine zr_aload_n (pc' := 6) (i := 0) dX12_leads_5 rfl rfl rfl ?_
  refine zr_iload_n (pc' := 7) (i := 1) dX12_leads_6 rfl rfl rfl ?_
  refine zn_callV (pc' := 10) (args := [.inl l1]) (st := []) (st' := fun _ => []) dX12_leads_7 rfl cv_X12_494 ⟨rfl, rfl, by decide, by decide⟩ rfl ps_102 kd_102 rfl rfl (Nat.le_of_ble_eq_true rfl) (fun _ => rfl) h ?_
  intro r3 M4 h
  refine zr_aload_n (pc' := 11) (i := 0) dX12_leads_10 rfl rfl rfl ?_
  refine zr_aload_n (pc' := 12) (i := 0) dX12_leads_11 rfl rfl rfl ?_
  refine zr_get (pc' := 15) dX12_leads_12 rfl ps_102 kd_102 fl_X12_474 kc_12 (gv_102_94 _) ?_
  refine zr_put (pc' := 18) dX12_leads_15 rfl ps_102 kd_102 fl_X12_497 kc_12 rfl nf_102_95 rfl trivial (fun M5 hM1 => ?_)
  have h := h M5 hM1
  obtain ⟨n', h⟩ := h
  exact zn_al ((key n')  _ h) ⟨rfl, trivial⟩
set_option maxRecDepth 20000 in
theorem vcX12_allPeople {E : zE} {M : zM} {Q : Int → zM → Prop} (I4 : Nat → Int → Int → zM → Prop)
    (h : ∃ n', I4 n' 0 0 M)
    (h4 : ∀ (n : Nat) (l1 l2 : Int) (M : zM), I4 n l1 l2 M → ((zR l2 ∧ zR (M 102 69)) ∧ (((M 102 69) ≤ l2 → Q l1 M) ∧ (l2 < (M 102 69) → (0 ≤ l2 ∧ l2 < 8) ∧ ((zR (M 142 l2.toNat)) ∧ (((M 142 l2.toNat) = 0 → ∃ n', n' < n ∧ I4 n' (l1 + 0) (l2 + 1) M) ∧ (¬ (M 142 l2.toNat) = 0 → (0 ≤ l2 ∧ l2 < 8) ∧ ∃ n', n' < n ∧ I4 n' (l1 + (M 144 l2.toNat)) (l2 + 1) M)))))))
    : zP E mX12_allPeople [.inr (.inr 102)] M Q := by
  have key : ∀ n : Nat, (∀ (l1 l2 : Int) (M : zM), I4 n l1 l2 M → zA E zNN (0, 0) mX12_allPeople 4 [(0, .inr (.inr 102)), (1, .inl l1), (2, .inl l2)] [] M (zQ Q)) := by
    intro n
    induction n using Nat.strongRecOn with
    | ind n ih =>
      intro l1 l2 M h
      have h := h4 n l1 l2 M h
      refine zr_iload_n (pc' := 5) (i := 2) dX12_allPeople_4 rfl rfl rfl ?_
      refine zr_aload_n (pc' := 6) (i := 0) dX12_allPeople_5 rfl rfl rfl ?_
      refine zr_get (pc' := 9) dX12_allPeople_6 rfl ps_102 kd_102 fl_X12_414 kc_12 (gv_102_69 _) ?_
      refine zr_icmp_ge (tgt := 40) (pc' := 12) dX12_allPeople_9 rfl rfl h.1.1 h.1.2 (fun hc => ?_) (fun hc => ?_)
      · have h := h.2.1 hc
        refine zr_iload_n (pc' := 41) (i := 1) dX12_allPeople_40 rfl rfl rfl ?_
        exact zr_ireturn dX12_allPeople_41 rfl rfl trivial (Nat.le_refl _) (Nat.le_refl _) (And.intro rfl h)
      · have h := h.2.2 hc
        refine zr_iload_n (pc' := 13) (i := 1) dX12_allPeople_12 rfl rfl rfl ?_
        refine zr_aload_n (pc' := 14) (i := 0) dX12_allPeople_13 rfl rfl rfl ?_
        refine zr_get (pc' := 17) dX12_allPeople_14 rfl ps_102 kd_102 fl_X12_139 kc_12 (gv_102_70 _) ?_
        refine zr_iload_n (pc' := 18) (i := 2) dX12_allPeople_17 rfl rfl rfl ?_
        refine zr_zald (pc' := 19) dX12_allPeople_18 rfl ps_142 kd_142 (by decide) h.1.1 h.1.2 ?_
        have h := h.2
        refine zr_if_eq (tgt := 31) (pc' := 22) dX12_allPeople_19 rfl rfl h.1 (fun hc => ?_) (fun hc => ?_)
        · have h := h.2.1 hc
          refine zr_iconst (pc' := 32) dX12_allPeople_31 rfl ?_
          refine zr_iadd (pc' := 33) dX12_allPeople_32 rfl ?_
          refine zr_istore_n (pc' := 34) (i := 1) (al' := [(1, .inl (l1 + 0)), (0, .inr (.inr 102)), (2, .inl l2)]) dX12_allPeople_33 rfl rfl (by decide) rfl ?_
          refine zr_iinc (pc' := 37) (al' := [(2, .inl (l2 + 1)), (1, .inl (l1 + 0)), (0, .inr (.inr 102))]) dX12_allPeople_34 rfl rfl (by decide) rfl ?_
          refine zr_goto (pc' := 4) dX12_allPeople_37 rfl ?_
          obtain ⟨n', hn, h⟩ := h
          exact zn_al ((ih n' hn) _ _ _ h) ⟨rfl, rfl, rfl, trivial⟩
        · have h := h.2.2 hc
          refine zr_aload_n (pc' := 23) (i := 0) dX12_allPeople_22 rfl rfl rfl ?_
          refine zr_get (pc' := 26) dX12_allPeople_23 rfl ps_102 kd_102 fl_X12_145 kc_12 (gv_102_72 _) ?_
          refine zr_iload_n (pc' := 27) (i := 2) dX12_allPeople_26 rfl rfl rfl ?_
          refine zr_iald (pc' := 28) dX12_allPeople_27 rfl ps_144 kd_144 (by decide) h.1.1 h.1.2 ?_
          have h := h.2
          refine zr_goto (pc' := 32) dX12_allPeople_28 rfl ?_
          refine zr_iadd (pc' := 33) dX12_allPeople_32 rfl ?_
          refine zr_istore_n (pc' := 34) (i := 1) (al' := [(1, .inl (l1 + (M 144 l2.toNat))), (0, .inr (.inr 102)), (2, .inl l2)]) dX12_allPeople_33 rfl rfl (by decide) rfl ?_
          refine zr_iinc (pc' := 37) (al' := [(2, .inl (l2 + 1)), (1, .inl (l1 + (M 144 l2.toNat))), (0, .inr (.inr 102))]) dX12_allPeople_34 rfl rfl (by decide) rfl ?_
          refine zr_goto (pc' := 4) dX12_allPeople_37 rfl ?_
          obtain ⟨n', hn, h⟩ := h
          exact zn_al ((ih n' hn) _ _ _ h) ⟨rfl, rfl, rfl, trivial⟩
  refine zP_of (by decide +kernel) rfl (Nat.le_of_ble_eq_true rfl) ?_
  show zA E zNN (0, 0) mX12_allPeople 0 [(0, .inr (.inr 102))] [] M (zQ Q)
  refine zr_iconst (pc' := 1) dX12_allPeople_0 rfl ?_
  refine zr_istore_n (pc' := 2) (i := 1) (al' := [(1, .inl 0), (0, .inr (.inr 102))]) dX12_allPeople_1 rfl rfl (by decide) rfl ?_
  refine zr_iconst (pc' := 3) dX12_allPeople_2 rfl ?_
  refine zr_istore_n (pc' := 4) (i := 2) (al' := [(2, .inl 0), (1, .inl 0), (0, .inr (.inr 102))]) dX12_allPeople_3 rfl rfl (by decide) rfl ?_
  obtain ⟨n', h⟩ := h
  exact zn_al ((key n') _ _ _ h) ⟨rfl, rfl, rfl, trivial⟩
set_option maxRecDepth 20000 in
theorem vcX12_buried {E : zE} {M : zM} {Q : Int → zM → Prop} (I4 : Nat → Int → Int → zM → Prop)
    (h : ∃ n', I4 n' 0 0 M)
    (h4 : ∀ (n : Nat) (l1 l2 : Int) (M : zM), I4 n l1 l2 M → ((zR l2 ∧ zR ((M 102 51) * (M 102 52))) ∧ ((((M 102 51) * (M 102 52)) ≤ l2 → Q l1 M) ∧ (l2 < ((M 102 51) * (M 102 52)) → (0 ≤ l2 ∧ l2 < 64) ∧ ((zR (M 139 l2.toNat)) ∧ ((12 < (M 139 l2.toNat) → ∃ n', n' < n ∧ I4 n' (l1 + 0) (l2 + 1) M) ∧ ((M 139 l2.toNat) ≤ 12 → (0 ≤ l2 ∧ l2 < 64) ∧ ∃ n', n' < n ∧ I4 n' (l1 + (M 129 l2.toNat)) (l2 + 1) M)))))))
    : zP E mX12_buried [.inr (.inr 102)] M Q := by
  have key : ∀ n : Nat, (∀ (l1 l2 : Int) (M : zM), I4 n l1 l2 M → zA E zNN (0, 0) mX12_buried 4 [(0, .inr (.inr 102)), (1, .inl l1), (2, .inl l2)] [] M (zQ Q)) := by
    intro n
    induction n using Nat.strongRecOn with
    | ind n ih =>
      intro l1 l2 M h
      have h := h4 n l1 l2 M h
      refine zr_iload_n (pc' := 5) (i := 2) dX12_buried_4 rfl rfl rfl ?_
      refine zr_aload_n (pc' := 6) (i := 0) dX12_buried_5 rfl rfl rfl ?_
      refine zr_get (pc' := 9) dX12_buried_6 rfl ps_102 kd_102 fl_X12_91 kc_12 (gv_102_51 _) ?_
      refine zr_aload_n (pc' := 10) (i := 0) dX12_buried_9 rfl rfl rfl ?_
      refine zr_get (pc' := 13) dX12_buried_10 rfl ps_102 kd_102 fl_X12_94 kc_12 (gv_102_52 _) ?_
      refine zr_imul (pc' := 14) dX12_buried_13 rfl ?_
      refine zr_icmp_ge (tgt := 47) (pc' := 17) dX12_buried_14 rfl rfl h.1.1 h.1.2 (fun hc => ?_) (fun hc => ?_)
      · have h := h.2.1 hc
        refine zr_iload_n (pc' := 48) (i := 1) dX12_buried_47 rfl rfl rfl ?_
        exact zr_ireturn dX12_buried_48 rfl rfl trivial (Nat.le_refl _) (Nat.le_refl _) (And.intro rfl h)
      · have h := h.2.2 hc
        refine zr_iload_n (pc' := 18) (i := 1) dX12_buried_17 rfl rfl rfl ?_
        refine zr_aload_n (pc' := 19) (i := 0) dX12_buried_18 rfl rfl rfl ?_
        refine zr_get (pc' := 22) dX12_buried_19 rfl ps_102 kd_102 fl_X12_130 kc_12 (gv_102_66 _) ?_
        refine zr_iload_n (pc' := 23) (i := 2) dX12_buried_22 rfl rfl rfl ?_
        refine zr_iald (pc' := 24) dX12_buried_23 rfl ps_139 kd_139 (by decide) h.1.1 h.1.2 ?_
        have h := h.2
        refine zr_bipush (pc' := 26) dX12_buried_24 rfl rfl ?_
        refine zr_icmp_gt (tgt := 38) (pc' := 29) dX12_buried_26 rfl rfl h.1 (zRd rfl) (fun hc => ?_) (fun hc => ?_)
        · have h := h.2.1 hc
          refine zr_iconst (pc' := 39) dX12_buried_38 rfl ?_
          refine zr_iadd (pc' := 40) dX12_buried_39 rfl ?_
          refine zr_istore_n (pc' := 41) (i := 1) (al' := [(1, .inl (l1 + 0)), (0, .inr (.inr 102)), (2, .inl l2)]) dX12_buried_40 rfl rfl (by decide) rfl ?_
          refine zr_iinc (pc' := 44) (al' := [(2, .inl (l2 + 1)), (1, .inl (l1 + 0)), (0, .inr (.inr 102))]) dX12_buried_41 rfl rfl (by decide) rfl ?_
          refine zr_goto (pc' := 4) dX12_buried_44 rfl ?_
          obtain ⟨n', hn, h⟩ := h
          exact zn_al ((ih n' hn) _ _ _ h) ⟨rfl, rfl, rfl, trivial⟩
        · have h := h.2.2 hc
          refine zr_aload_n (pc' := 30) (i := 0) dX12_buried_29 rfl rfl rfl ?_
          refine zr_get (pc' := 33) dX12_buried_30 rfl ps_102 kd_102 fl_X12_100 kc_12 (gv_102_54 _) ?_
          refine zr_iload_n (pc' := 34) (i := 2) dX12_buried_33 rfl rfl rfl ?_
          refine zr_iald (pc' := 35) dX12_buried_34 rfl ps_129 kd_129 (by decide) h.1.1 h.1.2 ?_
          have h := h.2
          refine zr_goto (pc' := 39) dX12_buried_35 rfl ?_
          refine zr_iadd (pc' := 40) dX12_buried_39 rfl ?_
          refine zr_istore_n (pc' := 41) (i := 1) (al' := [(1, .inl (l1 + (M 129 l2.toNat))), (0, .inr (.inr 102)), (2, .inl l2)]) dX12_buried_40 rfl rfl (by decide) rfl ?_
          refine zr_iinc (pc' := 44) (al' := [(2, .inl (l2 + 1)), (1, .inl (l1 + (M 129 l2.toNat))), (0, .inr (.inr 102))]) dX12_buried_41 rfl rfl (by decide) rfl ?_
          refine zr_goto (pc' := 4) dX12_buried_44 rfl ?_
          obtain ⟨n', hn, h⟩ := h
          exact zn_al ((ih n' hn) _ _ _ h) ⟨rfl, rfl, rfl, trivial⟩
  refine zP_of (by decide +kernel) rfl (Nat.le_of_ble_eq_true rfl) ?_
  show zA E zNN (0, 0) mX12_buried 0 [(0, .inr (.inr 102))] [] M (zQ Q)
  refine zr_iconst (pc' := 1) dX12_buried_0 rfl ?_
  refine zr_istore_n (pc' := 2) (i := 1) (al' := [(1, .inl 0), (0, .inr (.inr 102))]) dX12_buried_1 rfl rfl (by decide) rfl ?_
  refine zr_iconst (pc' := 3) dX12_buried_2 rfl ?_
  refine zr_istore_n (pc' := 4) (i := 2) (al' := [(2, .inl 0), (1, .inl 0), (0, .inr (.inr 102))]) dX12_buried_3 rfl rfl (by decide) rfl ?_
  obtain ⟨n', h⟩ := h
  exact zn_al ((key n') _ _ _ h) ⟨rfl, rfl, rfl, trivial⟩
set_option maxRecDepth 20000 in
theorem vcX12_ledOut {E : zE} {M : zM} {Q : Int → zM → Prop} (l1 l2 : Int)
    (h : (∀ M1, M1 = zup M 102 2 0 → (zP E mX12_isWorld [.inr (.inr 102), .inl l1] M1 (fun r2 M3 => ((zR r2) ∧ ((r2 = 0 → Q (-1) M3) ∧ (¬ r2 = 0 → (zP E mX12_isIn [.inl l2, .inl 0, .inl 2] M3 (fun r4 M5 => ((zR r4) ∧ ((¬ r4 = 0 → (zP E mX12_allLevels [.inr (.inr 102)] M5 (fun r6 M7 => (zP E mX12_leads [.inr (.inr 102), .inl l1] M7 (fun r8 M9 => ((zR l2) ∧ ((¬ l2 = 0 → ((zR l2) ∧ ((¬ l2 = 1 → (zP E mX12_buried [.inr (.inr 102)] M9 (fun r10 M11 => Q r10 M11))) ∧ (l2 = 1 → (zP E mX12_allPeople [.inr (.inr 102)] M9 (fun r12 M13 => Q (r12 - (M13 102 95)) M13)))))) ∧ (l2 = 0 → Q (M9 102 95) M9)))))))) ∧ (r4 = 0 → Q (-1) M5))))))))))))
    : zP E mX12_ledOut [.inr (.inr 102), .inl l1, .inl l2] M Q := by
  refine zP_of (by decide +kernel) rfl (Nat.le_of_ble_eq_true rfl) ?_
  show zA E zNN (0, 0) mX12_ledOut 0 [(0, .inr (.inr 102)), (1, .inl l1), (2, .inl l2)] [] M (zQ Q)
  refine zr_aload_n (pc' := 1) (i := 0) dX12_ledOut_0 rfl rfl rfl ?_
  refine zr_iconst (pc' := 2) dX12_ledOut_1 rfl ?_
  refine zr_put (pc' := 5) dX12_ledOut_2 rfl ps_102 kd_102 fl_X12_208 kc_12 rfl nf_102_2 rfl trivial (fun M1 hM1 => ?_)
  have h := h M1 hM1
  refine zr_aload_n (pc' := 6) (i := 0) dX12_ledOut_5 rfl rfl rfl ?_
  refine zr_iload_n (pc' := 7) (i := 1) dX12_ledOut_6 rfl rfl rfl ?_
  refine zn_callV (pc' := 10) (args := [.inl l1]) (st := []) (st' := fun r2 => [.inl r2]) dX12_ledOut_7 rfl cv_X12_446 ⟨rfl, rfl, by decide, by decide⟩ rfl ps_102 kd_102 rfl rfl (Nat.le_of_ble_eq_true rfl) (fun _ => rfl) h ?_
  intro r2 M3 h
  refine zr_if_eq (tgt := 22) (pc' := 13) dX12_ledOut_10 rfl rfl h.1 (fun hc => ?_) (fun hc => ?_)
  · have h := h.2.1 hc
    refine zr_iconst (pc' := 23) dX12_ledOut_22 rfl ?_
    exact zr_ireturn dX12_ledOut_23 rfl rfl trivial (Nat.le_refl _) (Nat.le_refl _) (And.intro rfl h)
  · have h := h.2.2 hc
    refine zr_iload_n (pc' := 14) (i := 2) dX12_ledOut_13 rfl rfl rfl ?_
    refine zr_iconst (pc' := 15) dX12_ledOut_14 rfl ?_
    refine zr_iconst (pc' := 16) dX12_ledOut_15 rfl ?_
    refine zn_callS (pc' := 19) (args := [.inl l2, .inl 0, .inl 2]) (st := []) (st' := fun r4 => [.inl r4]) dX12_ledOut_16 rfl cs_X12_214 ⟨rfl, rfl, by decide, by decide⟩ rfl rfl rfl (Nat.le_of_ble_eq_true rfl) (fun _ => rfl) h ?_
    intro r4 M5 h
    refine zr_if_ne (tgt := 24) (pc' := 22) dX12_ledOut_19 rfl rfl h.1 (fun hc => ?_) (fun hc => ?_)
    · have h := h.2.1 hc
      refine zr_aload_n (pc' := 25) (i := 0) dX12_ledOut_24 rfl rfl rfl ?_
      refine zn_callV (pc' := 28) (args := []) (st := []) (st' := fun _ => []) dX12_ledOut_25 rfl cv_X12_455 ⟨rfl, rfl, by decide, by decide⟩ rfl ps_102 kd_102 rfl rfl (Nat.le_of_ble_eq_true rfl) (fun _ => rfl) h ?_
      intro r6 M7 h
      refine zr_aload_n (pc' := 29) (i := 0) dX12_ledOut_28 rfl rfl rfl ?_
      refine zr_iload_n (pc' := 30) (i := 1) dX12_ledOut_29 rfl rfl rfl ?_
      refine zn_callV (pc' := 33) (args := [.inl l1]) (st := []) (st' := fun _ => []) dX12_ledOut_30 rfl cv_X12_506 ⟨rfl, rfl, by decide, by decide⟩ rfl ps_102 kd_102 rfl rfl (Nat.le_of_ble_eq_true rfl) (fun _ => rfl) h ?_
      intro r8 M9 h
      refine zr_iload_n (pc' := 34) (i := 2) dX12_ledOut_33 rfl rfl rfl ?_
      refine zr_if_ne (tgt := 44) (pc' := 37) dX12_ledOut_34 rfl rfl h.1 (fun hc => ?_) (fun hc => ?_)
      · have h := h.2.1 hc
        refine zr_iload_n (pc' := 45) (i := 2) dX12_ledOut_44 rfl rfl rfl ?_
        refine zr_iconst (pc' := 46) dX12_ledOut_45 rfl ?_
        refine zr_icmp_ne (tgt := 61) (pc' := 49) dX12_ledOut_46 rfl rfl h.1 (zRd rfl) (fun hc => ?_) (fun hc => ?_)
        · have h := h.2.1 hc
          refine zr_aload_n (pc' := 62) (i := 0) dX12_ledOut_61 rfl rfl rfl ?_
          refine zn_callV (pc' := 65) (args := []) (st := []) (st' := fun r10 => [.inl r10]) dX12_ledOut_62 rfl cv_X12_512 ⟨rfl, rfl, by decide, by decide⟩ rfl ps_102 kd_102 rfl rfl (Nat.le_of_ble_eq_true rfl) (fun _ => rfl) h ?_
          intro r10 M11 h
          exact zr_ireturn dX12_ledOut_65 rfl rfl trivial (Nat.le_refl _) (Nat.le_refl _) (And.intro rfl h)
        · have h := h.2.2 hc
          refine zr_aload_n (pc' := 50) (i := 0) dX12_ledOut_49 rfl rfl rfl ?_
          refine zn_callV (pc' := 53) (args := []) (st := []) (st' := fun r12 => [.inl r12]) dX12_ledOut_50 rfl cv_X12_509 ⟨rfl, rfl, by decide, by decide⟩ rfl ps_102 kd_102 rfl rfl (Nat.le_of_ble_eq_true rfl) (fun _ => rfl) h ?_
          intro r12 M13 h
          refine zr_aload_n (pc' := 54) (i := 0) dX12_ledOut_53 rfl rfl rfl ?_
          refine zr_get (pc' := 57) dX12_ledOut_54 rfl ps_102 kd_102 fl_X12_497 kc_12 (gv_102_95 _) ?_
          refine zr_isub (pc' := 58) dX12_ledOut_57 rfl ?_
          refine zr_goto (pc' := 65) dX12_ledOut_58 rfl ?_
          exact zr_ireturn dX12_ledOut_65 rfl rfl trivial (Nat.le_refl _) (Nat.le_refl _) (And.intro rfl h)
      · have h := h.2.2 hc
        refine zr_aload_n (pc' := 38) (i := 0) dX12_ledOut_37 rfl rfl rfl ?_
        refine zr_get (pc' := 41) dX12_ledOut_38 rfl ps_102 kd_102 fl_X12_497 kc_12 (gv_102_95 _) ?_
        refine zr_goto (pc' := 65) dX12_ledOut_41 rfl ?_
        exact zr_ireturn dX12_ledOut_65 rfl rfl trivial (Nat.le_refl _) (Nat.le_refl _) (And.intro rfl h)
    · have h := h.2.2 hc
      refine zr_iconst (pc' := 23) dX12_ledOut_22 rfl ?_
      exact zr_ireturn dX12_ledOut_23 rfl rfl trivial (Nat.le_refl _) (Nat.le_refl _) (And.intro rfl h)
set_option maxRecDepth 20000 in
theorem vcX12_cut {E : zE} {M : zM} {Q : Int → zM → Prop} (l1 l2 l3 : Int)
    (h : (∀ M1, M1 = zup M 102 2 0 → (zP E mX12_isWorld [.inr (.inr 102), .inl l1] M1 (fun r2 M3 => ((zR r2) ∧ ((r2 = 0 → Q (-1) M3) ∧ (¬ r2 = 0 → (zP E mX12_isPlace [.inr (.inr 102), .inl l2] M3 (fun r4 M5 => ((zR r4) ∧ ((¬ r4 = 0 → (zP E mX12_allLevels [.inr (.inr 102)] M5 (fun r6 M7 => (zP E mX12_leads [.inr (.inr 102), .inl l1] M7 (fun r8 M9 => ((zR l3 ∧ zR (M9 102 92)) ∧ ((l3 < (M9 102 92) → Q (-1) M9) ∧ ((M9 102 92) ≤ l3 → ((zR l3 ∧ zR (M9 102 93)) ∧ ((l3 ≤ (M9 102 93) → (zP E mX12_nodeOf [.inr (.inr 102), .inl l2, .inl l3] M9 (fun r10 M11 => (0 ≤ r10 ∧ r10 < 402) ∧ ((zR (M11 160 r10.toNat)) ∧ ((¬ (M11 160 r10.toNat) = (-1) → Q 1 M11) ∧ ((M11 160 r10.toNat) = (-1) → Q 0 M11)))))) ∧ ((M9 102 93) < l3 → Q (-1) M9))))))))))) ∧ (r4 = 0 → Q (-1) M5))))))))))))
    : zP E mX12_cut [.inr (.inr 102), .inl l1, .inl l2, .inl l3] M Q := by
  refine zP_of (by decide +kernel) rfl (Nat.le_of_ble_eq_true rfl) ?_
  show zA E zNN (0, 0) mX12_cut 0 [(0, .inr (.inr 102)), (1, .inl l1), (2, .inl l2), (3, .inl l3)] [] M (zQ Q)
  refine zr_aload_n (pc' := 1) (i := 0) dX12_cut_0 rfl rfl rfl ?_
  refine zr_iconst (pc' := 2) dX12_cut_1 rfl ?_
  refine zr_put (pc' := 5) dX12_cut_2 rfl ps_102 kd_102 fl_X12_208 kc_12 rfl nf_102_2 rfl trivial (fun M1 hM1 => ?_)
  have h := h M1 hM1
  refine zr_aload_n (pc' := 6) (i := 0) dX12_cut_5 rfl rfl rfl ?_
  refine zr_iload_n (pc' := 7) (i := 1) dX12_cut_6 rfl rfl rfl ?_
  refine zn_callV (pc' := 10) (args := [.inl l1]) (st := []) (st' := fun r2 => [.inl r2]) dX12_cut_7 rfl cv_X12_446 ⟨rfl, rfl, by decide, by decide⟩ rfl ps_102 kd_102 rfl rfl (Nat.le_of_ble_eq_true rfl) (fun _ => rfl) h ?_
  intro r2 M3 h
  refine zr_if_eq (tgt := 21) (pc' := 13) dX12_cut_10 rfl rfl h.1 (fun hc => ?_) (fun hc => ?_)
  · have h := h.2.1 hc
    refine zr_iconst (pc' := 22) dX12_cut_21 rfl ?_
    exact zr_ireturn dX12_cut_22 rfl rfl trivial (Nat.le_refl _) (Nat.le_refl _) (And.intro rfl h)
  · have h := h.2.2 hc
    refine zr_aload_n (pc' := 14) (i := 0) dX12_cut_13 rfl rfl rfl ?_
    refine zr_iload_n (pc' := 15) (i := 2) dX12_cut_14 rfl rfl rfl ?_
    refine zn_callV (pc' := 18) (args := [.inl l2]) (st := []) (st' := fun r4 => [.inl r4]) dX12_cut_15 rfl cv_X12_452 ⟨rfl, rfl, by decide, by decide⟩ rfl ps_102 kd_102 rfl rfl (Nat.le_of_ble_eq_true rfl) (fun _ => rfl) h ?_
    intro r4 M5 h
    refine zr_if_ne (tgt := 23) (pc' := 21) dX12_cut_18 rfl rfl h.1 (fun hc => ?_) (fun hc => ?_)
    · have h := h.2.1 hc
      refine zr_aload_n (pc' := 24) (i := 0) dX12_cut_23 rfl rfl rfl ?_
      refine zn_callV (pc' := 27) (args := []) (st := []) (st' := fun _ => []) dX12_cut_24 rfl cv_X12_455 ⟨rfl, rfl, by decide, by decide⟩ rfl ps_102 kd_102 rfl rfl (Nat.le_of_ble_eq_true rfl) (fun _ => rfl) h ?_
      intro r6 M7 h
      refine zr_aload_n (pc' := 28) (i := 0) dX12_cut_27 rfl rfl rfl ?_
      refine zr_iload_n (pc' := 29) (i := 1) dX12_cut_28 rfl rfl rfl ?_
      refine zn_callV (pc' := 32) (args := [.inl l1]) (st := []) (st' := fun _ => []) dX12_cut_29 rfl cv_X12_506 ⟨rfl, rfl, by decide, by decide⟩ rfl ps_102 kd_102 rfl rfl (Nat.le_of_ble_eq_true rfl) (fun _ => rfl) h ?_
      intro r8 M9 h
      refine zr_iload_n (pc' := 33) (i := 3) dX12_cut_32 rfl rfl rfl ?_
      refine zr_aload_n (pc' := 34) (i := 0) dX12_cut_33 rfl rfl rfl ?_
      refine zr_get (pc' := 37) dX12_cut_34 rfl ps_102 kd_102 fl_X12_464 kc_12 (gv_102_92 _) ?_
      refine zr_icmp_lt (tgt := 48) (pc' := 40) dX12_cut_37 rfl rfl h.1.1 h.1.2 (fun hc => ?_) (fun hc => ?_)
      · have h := h.2.1 hc
        refine zr_iconst (pc' := 49) dX12_cut_48 rfl ?_
        exact zr_ireturn dX12_cut_49 rfl rfl trivial (Nat.le_refl _) (Nat.le_refl _) (And.intro rfl h)
      · have h := h.2.2 hc
        refine zr_iload_n (pc' := 41) (i := 3) dX12_cut_40 rfl rfl rfl ?_
        refine zr_aload_n (pc' := 42) (i := 0) dX12_cut_41 rfl rfl rfl ?_
        refine zr_get (pc' := 45) dX12_cut_42 rfl ps_102 kd_102 fl_X12_471 kc_12 (gv_102_93 _) ?_
        refine zr_icmp_le (tgt := 50) (pc' := 48) dX12_cut_45 rfl rfl h.1.1 h.1.2 (fun hc => ?_) (fun hc => ?_)
        · have h := h.2.1 hc
          refine zr_aload_n (pc' := 51) (i := 0) dX12_cut_50 rfl rfl rfl ?_
          refine zr_get (pc' := 54) dX12_cut_51 rfl ps_102 kd_102 fl_X12_193 kc_12 (gv_102_90 _) ?_
          refine zr_aload_n (pc' := 55) (i := 0) dX12_cut_54 rfl rfl rfl ?_
          refine zr_iload_n (pc' := 56) (i := 2) dX12_cut_55 rfl rfl rfl ?_
          refine zr_iload_n (pc' := 57) (i := 3) dX12_cut_56 rfl rfl rfl ?_
          refine zn_callV (pc' := 60) (args := [.inl l2, .inl l3]) (st := [.inr (.inr 160)]) (st' := fun r10 => [.inl r10, .inr (.inr 160)]) dX12_cut_57 rfl cv_X12_486 ⟨rfl, rfl, by decide, by decide⟩ rfl ps_102 kd_102 rfl rfl (Nat.le_of_ble_eq_true rfl) (fun _ => rfl) h ?_
          intro r10 M11 h
          refine zr_iald (pc' := 61) dX12_cut_60 rfl ps_160 kd_160 (by decide) h.1.1 h.1.2 ?_
          have h := h.2
          refine zr_iconst (pc' := 62) dX12_cut_61 rfl ?_
          refine zr_icmp_ne (tgt := 69) (pc' := 65) dX12_cut_62 rfl rfl h.1 (zRd rfl) (fun hc => ?_) (fun hc => ?_)
          · have h := h.2.1 hc
            refine zr_iconst (pc' := 70) dX12_cut_69 rfl ?_
            exact zr_ireturn dX12_cut_70 rfl rfl trivial (Nat.le_refl _) (Nat.le_refl _) (And.intro rfl h)
          · have h := h.2.2 hc
            refine zr_iconst (pc' := 66) dX12_cut_65 rfl ?_
            refine zr_goto (pc' := 70) dX12_cut_66 rfl ?_
            exact zr_ireturn dX12_cut_70 rfl rfl trivial (Nat.le_refl _) (Nat.le_refl _) (And.intro rfl h)
        · have h := h.2.2 hc
          refine zr_iconst (pc' := 49) dX12_cut_48 rfl ?_
          exact zr_ireturn dX12_cut_49 rfl rfl trivial (Nat.le_refl _) (Nat.le_refl _) (And.intro rfl h)
    · have h := h.2.2 hc
      refine zr_iconst (pc' := 22) dX12_cut_21 rfl ?_
      exact zr_ireturn dX12_cut_22 rfl rfl trivial (Nat.le_refl _) (Nat.le_refl _) (And.intro rfl h)
set_option maxRecDepth 20000 in
theorem vcX12_costs {E : zE} {M : zM} {Q : Int → zM → Prop} (I12 : Nat → Int → zM → Prop)
    (h : (∀ M1, M1 = zup M 102 98 0 → (∀ M2, M2 = zup M1 102 99 0 → ∃ n', I12 n' 0 M2)))
    (h12 : ∀ (n : Nat) (l1 : Int) (M : zM), I12 n l1 M → ((zR l1 ∧ zR (M 102 58)) ∧ (((M 102 58) ≤ l1 → Q 0 M) ∧ (l1 < (M 102 58) → (zP E mX12_leads [.inr (.inr 102), .inl l1] M (fun r3 M4 => (0 ≤ l1 ∧ l1 < 3) ∧ (zP E mX12_allPeople [.inr (.inr 102)] M4 (fun r5 M6 => (∀ M7, M7 = zup M6 102 98 ((M4 102 98) + ((M4 136 l1.toNat) * (r5 - (M6 102 95)))) → (0 ≤ l1 ∧ l1 < 3) ∧ (zP E mX12_buried [.inr (.inr 102)] M7 (fun r8 M9 => (∀ M10, M10 = zup M9 102 99 ((M7 102 99) + ((M7 136 l1.toNat) * r8)) → ∃ n', n' < n ∧ I12 n' (l1 + 1) M10))))))))))))
    : zP E mX12_costs [.inr (.inr 102)] M Q := by
  have key : ∀ n : Nat, (∀ (l1 : Int) (M : zM), I12 n l1 M → zA E zNN (0, 0) mX12_costs 12 [(0, .inr (.inr 102)), (1, .inl l1)] [] M (zQ Q)) := by
    intro n
    induction n using Nat.strongRecOn with
    | ind n ih =>
      intro l1 M h
      have h := h12 n l1 M h
      refine zr_iload_n (pc' := 13) (i := 1) dX12_costs_12 rfl rfl rfl ?_
      refine zr_aload_n (pc' := 14) (i := 0) dX12_costs_13 rfl rfl rfl ?_
      refine zr_get (pc' := 17) dX12_costs_14 rfl ps_102 kd_102 fl_X12_411 kc_12 (gv_102_58 _) ?_
      refine zr_icmp_ge (tgt := 76) (pc' := 20) dX12_costs_17 rfl rfl h.1.1 h.1.2 (fun hc => ?_) (fun hc => ?_)
      · have h := h.2.1 hc
        exact zr_return (x := 0) dX12_costs_76 rfl (Nat.le_refl _) (Nat.le_refl _) (And.intro rfl h)
      · have h := h.2.2 hc
        refine zr_aload_n (pc' := 21) (i := 0) dX12_costs_20 rfl rfl rfl ?_
        refine zr_iload_n (pc' := 22) (i := 1) dX12_costs_21 rfl rfl rfl ?_
        refine zn_callV (pc' := 25) (args := [.inl l1]) (st := []) (st' := fun _ => []) dX12_costs_22 rfl cv_X12_506 ⟨rfl, rfl, by decide, by decide⟩ rfl ps_102 kd_102 rfl rfl (Nat.le_of_ble_eq_true rfl) (fun _ => rfl) h ?_
        intro r3 M4 h
        refine zr_aload_n (pc' := 26) (i := 0) dX12_costs_25 rfl rfl rfl ?_
        refine zr_dup (pc' := 27) dX12_costs_26 rfl rfl ?_
        refine zr_get (pc' := 30) dX12_costs_27 rfl ps_102 kd_102 fl_X12_515 kc_12 (gv_102_98 _) ?_
        refine zr_aload_n (pc' := 31) (i := 0) dX12_costs_30 rfl rfl rfl ?_
        refine zr_get (pc' := 34) dX12_costs_31 rfl ps_102 kd_102 fl_X12_121 kc_12 (gv_102_63 _) ?_
        refine zr_iload_n (pc' := 35) (i := 1) dX12_costs_34 rfl rfl rfl ?_
        refine zr_iald (pc' := 36) dX12_costs_35 rfl ps_136 kd_136 (by decide) h.1.1 h.1.2 ?_
        have h := h.2
        refine zr_aload_n (pc' := 37) (i := 0) dX12_costs_36 rfl rfl rfl ?_
        refine zn_callV (pc' := 40) (args := []) (st := [.inl (M4 136 l1.toNat), .inl (M4 102 98), .inr (.inr 102)]) (st' := fun r5 => [.inl r5, .inl (M4 136 l1.toNat), .inl (M4 102 98), .inr (.inr 102)]) dX12_costs_37 rfl cv_X12_509 ⟨rfl, rfl, by decide, by decide⟩ rfl ps_102 kd_102 rfl rfl (Nat.le_of_ble_eq_true rfl) (fun _ => rfl) h ?_
        intro r5 M6 h
        refine zr_aload_n (pc' := 41) (i := 0) dX12_costs_40 rfl rfl rfl ?_
        refine zr_get (pc' := 44) dX12_costs_41 rfl ps_102 kd_102 fl_X12_497 kc_12 (gv_102_95 _) ?_
        refine zr_isub (pc' := 45) dX12_costs_44 rfl ?_
        refine zr_imul (pc' := 46) dX12_costs_45 rfl ?_
        refine zr_iadd (pc' := 47) dX12_costs_46 rfl ?_
        refine zr_put (pc' := 50) dX12_costs_47 rfl ps_102 kd_102 fl_X12_515 kc_12 rfl nf_102_98 rfl trivial (fun M7 hM1 => ?_)
        have h := h M7 hM1
        refine zr_aload_n (pc' := 51) (i := 0) dX12_costs_50 rfl rfl rfl ?_
        refine zr_dup (pc' := 52) dX12_costs_51 rfl rfl ?_
        refine zr_get (pc' := 55) dX12_costs_52 rfl ps_102 kd_102 fl_X12_518 kc_12 (gv_102_99 _) ?_
        refine zr_aload_n (pc' := 56) (i := 0) dX12_costs_55 rfl rfl rfl ?_
        refine zr_get (pc' := 59) dX12_costs_56 rfl ps_102 kd_102 fl_X12_121 kc_12 (gv_102_63 _) ?_
        refine zr_iload_n (pc' := 60) (i := 1) dX12_costs_59 rfl rfl rfl ?_
        refine zr_iald (pc' := 61) dX12_costs_60 rfl ps_136 kd_136 (by decide) h.1.1 h.1.2 ?_
        have h := h.2
        refine zr_aload_n (pc' := 62) (i := 0) dX12_costs_61 rfl rfl rfl ?_
        refine zn_callV (pc' := 65) (args := []) (st := [.inl (M7 136 l1.toNat), .inl (M7 102 99), .inr (.inr 102)]) (st' := fun r8 => [.inl r8, .inl (M7 136 l1.toNat), .inl (M7 102 99), .inr (.inr 102)]) dX12_costs_62 rfl cv_X12_512 ⟨rfl, rfl, by decide, by decide⟩ rfl ps_102 kd_102 rfl rfl (Nat.le_of_ble_eq_true rfl) (fun _ => rfl) h ?_
        intro r8 M9 h
        refine zr_imul (pc' := 66) dX12_costs_65 rfl ?_
        refine zr_iadd (pc' := 67) dX12_costs_66 rfl ?_
        refine zr_put (pc' := 70) dX12_costs_67 rfl ps_102 kd_102 fl_X12_518 kc_12 rfl nf_102_99 rfl trivial (fun M10 hM1 => ?_)
        have h := h M10 hM1
        refine zr_iinc (pc' := 73) (al' := [(1, .inl (l1 + 1)), (0, .inr (.inr 102))]) dX12_costs_70 rfl rfl (by decide) rfl ?_
        refine zr_goto (pc' := 12) dX12_costs_73 rfl ?_
        obtain ⟨n', hn, h⟩ := h
        exact zn_al ((ih n' hn) _ _ h) ⟨rfl, rfl, trivial⟩
  refine zP_of (by decide +kernel) rfl (Nat.le_of_ble_eq_true rfl) ?_
  show zA E zNN (0, 0) mX12_costs 0 [(0, .inr (.inr 102))] [] M (zQ Q)
  refine zr_aload_n (pc' := 1) (i := 0) dX12_costs_0 rfl rfl rfl ?_
  refine zr_iconst (pc' := 2) dX12_costs_1 rfl ?_
  refine zr_put (pc' := 5) dX12_costs_2 rfl ps_102 kd_102 fl_X12_515 kc_12 rfl nf_102_98 rfl trivial (fun M1 hM1 => ?_)
  have h := h M1 hM1
  refine zr_aload_n (pc' := 6) (i := 0) dX12_costs_5 rfl rfl rfl ?_
  refine zr_iconst (pc' := 7) dX12_costs_6 rfl ?_
  refine zr_put (pc' := 10) dX12_costs_7 rfl ps_102 kd_102 fl_X12_518 kc_12 rfl nf_102_99 rfl trivial (fun M2 hM1 => ?_)
  have h := h M2 hM1
  refine zr_iconst (pc' := 11) dX12_costs_10 rfl ?_
  refine zr_istore_n (pc' := 12) (i := 1) (al' := [(1, .inl 0), (0, .inr (.inr 102))]) dX12_costs_11 rfl rfl (by decide) rfl ?_
  obtain ⟨n', h⟩ := h
  exact zn_al ((key n') _ _ h) ⟨rfl, rfl, trivial⟩
set_option maxRecDepth 20000 in
theorem vcX12_cost {E : zE} {M : zM} {Q : Int → zM → Prop} (l1 : Int)
    (h : (∀ M1, M1 = zup M 102 2 0 → (zP E mX12_isIn [.inl l1, .inl 0, .inl 1] M1 (fun r2 M3 => ((zR r2) ∧ ((¬ r2 = 0 → (zP E mX12_allLevels [.inr (.inr 102)] M3 (fun r4 M5 => (zP E mX12_costs [.inr (.inr 102)] M5 (fun r6 M7 => ((zR l1) ∧ ((¬ l1 = 0 → Q (M7 102 99) M7) ∧ (l1 = 0 → Q (M7 102 98) M7)))))))) ∧ (r2 = 0 → Q (-1) M3)))))))
    : zP E mX12_cost [.inr (.inr 102), .inl l1] M Q := by
  refine zP_of (by decide +kernel) rfl (Nat.le_of_ble_eq_true rfl) ?_
  show zA E zNN (0, 0) mX12_cost 0 [(0, .inr (.inr 102)), (1, .inl l1)] [] M (zQ Q)
  refine zr_aload_n (pc' := 1) (i := 0) dX12_cost_0 rfl rfl rfl ?_
  refine zr_iconst (pc' := 2) dX12_cost_1 rfl ?_
  refine zr_put (pc' := 5) dX12_cost_2 rfl ps_102 kd_102 fl_X12_208 kc_12 rfl nf_102_2 rfl trivial (fun M1 hM1 => ?_)
  have h := h M1 hM1
  refine zr_iload_n (pc' := 6) (i := 1) dX12_cost_5 rfl rfl rfl ?_
  refine zr_iconst (pc' := 7) dX12_cost_6 rfl ?_
  refine zr_iconst (pc' := 8) dX12_cost_7 rfl ?_
  refine zn_callS (pc' := 11) (args := [.inl l1, .inl 0, .inl 1]) (st := []) (st' := fun r2 => [.inl r2]) dX12_cost_8 rfl cs_X12_214 ⟨rfl, rfl, by decide, by decide⟩ rfl rfl rfl (Nat.le_of_ble_eq_true rfl) (fun _ => rfl) h ?_
  intro r2 M3 h
  refine zr_if_ne (tgt := 16) (pc' := 14) dX12_cost_11 rfl rfl h.1 (fun hc => ?_) (fun hc => ?_)
  · have h := h.2.1 hc
    refine zr_aload_n (pc' := 17) (i := 0) dX12_cost_16 rfl rfl rfl ?_
    refine zn_callV (pc' := 20) (args := []) (st := []) (st' := fun _ => []) dX12_cost_17 rfl cv_X12_455 ⟨rfl, rfl, by decide, by decide⟩ rfl ps_102 kd_102 rfl rfl (Nat.le_of_ble_eq_true rfl) (fun _ => rfl) h ?_
    intro r4 M5 h
    refine zr_aload_n (pc' := 21) (i := 0) dX12_cost_20 rfl rfl rfl ?_
    refine zn_callV (pc' := 24) (args := []) (st := []) (st' := fun _ => []) dX12_cost_21 rfl cv_X12_521 ⟨rfl, rfl, by decide, by decide⟩ rfl ps_102 kd_102 rfl rfl (Nat.le_of_ble_eq_true rfl) (fun _ => rfl) h ?_
    intro r6 M7 h
    refine zr_iload_n (pc' := 25) (i := 1) dX12_cost_24 rfl rfl rfl ?_
    refine zr_if_ne (tgt := 35) (pc' := 28) dX12_cost_25 rfl rfl h.1 (fun hc => ?_) (fun hc => ?_)
    · have h := h.2.1 hc
      refine zr_aload_n (pc' := 36) (i := 0) dX12_cost_35 rfl rfl rfl ?_
      refine zr_get (pc' := 39) dX12_cost_36 rfl ps_102 kd_102 fl_X12_518 kc_12 (gv_102_99 _) ?_
      exact zr_ireturn dX12_cost_39 rfl rfl trivial (Nat.le_refl _) (Nat.le_refl _) (And.intro rfl h)
    · have h := h.2.2 hc
      refine zr_aload_n (pc' := 29) (i := 0) dX12_cost_28 rfl rfl rfl ?_
      refine zr_get (pc' := 32) dX12_cost_29 rfl ps_102 kd_102 fl_X12_515 kc_12 (gv_102_98 _) ?_
      refine zr_goto (pc' := 39) dX12_cost_32 rfl ?_
      exact zr_ireturn dX12_cost_39 rfl rfl trivial (Nat.le_refl _) (Nat.le_refl _) (And.intro rfl h)
  · have h := h.2.2 hc
    refine zr_iconst (pc' := 15) dX12_cost_14 rfl ?_
    exact zr_ireturn dX12_cost_15 rfl rfl trivial (Nat.le_refl _) (Nat.le_refl _) (And.intro rfl h)
set_option maxRecDepth 20000 in
theorem vcX12_candidate {E : zE} {M : zM} {Q : Int → zM → Prop} (l1 : Int) (I26 : Nat → Int → Int → zM → Prop)
    (h : (∀ M1, M1 = zup M 102 2 0 → ((zR (M1 102 96)) ∧ (((M1 102 96) = 6 → Q (-1) M1) ∧ (¬ (M1 102 96) = 6 → (zP E mX12_isCell [.inr (.inr 102), .inl l1] M1 (fun r2 M3 => ((zR r2) ∧ ((¬ r2 = 0 → ∃ n', I26 n' l1 0 M3) ∧ (r2 = 0 → Q (-1) M3))))))))))
    (h26 : ∀ (n : Nat) (l1 l2 : Int) (M : zM), I26 n l1 l2 M → ((zR l2 ∧ zR (M 102 96)) ∧ (((M 102 96) ≤ l2 → (0 ≤ M 102 96 ∧ M 102 96 < 6) ∧ (∀ M4, M4 = zup M 162 ((M 102 96).toNat) l1 → (∀ M5, M5 = zup M4 102 96 ((M4 102 96) + 1) → Q ((M5 102 96) - 1) M5))) ∧ (l2 < (M 102 96) → (0 ≤ l2 ∧ l2 < 6) ∧ ((zR (M 162 l2.toNat) ∧ zR l1) ∧ ((¬ (M 162 l2.toNat) = l1 → ∃ n', n' < n ∧ I26 n' l1 (l2 + 1) M) ∧ ((M 162 l2.toNat) = l1 → Q (-1) M)))))))
    : zP E mX12_candidate [.inr (.inr 102), .inl l1] M Q := by
  have key : ∀ n : Nat, (∀ (l1 l2 : Int) (M : zM), I26 n l1 l2 M → zA E zNN (0, 0) mX12_candidate 26 [(0, .inr (.inr 102)), (1, .inl l1), (2, .inl l2)] [] M (zQ Q)) := by
    intro n
    induction n using Nat.strongRecOn with
    | ind n ih =>
      intro l1 l2 M h
      have h := h26 n l1 l2 M h
      refine zr_iload_n (pc' := 27) (i := 2) dX12_candidate_26 rfl rfl rfl ?_
      refine zr_aload_n (pc' := 28) (i := 0) dX12_candidate_27 rfl rfl rfl ?_
      refine zr_get (pc' := 31) dX12_candidate_28 rfl ps_102 kd_102 fl_X12_420 kc_12 (gv_102_96 _) ?_
      refine zr_icmp_ge (tgt := 52) (pc' := 34) dX12_candidate_31 rfl rfl h.1.1 h.1.2 (fun hc => ?_) (fun hc => ?_)
      · have h := h.2.1 hc
        refine zr_aload_n (pc' := 53) (i := 0) dX12_candidate_52 rfl rfl rfl ?_
        refine zr_get (pc' := 56) dX12_candidate_53 rfl ps_102 kd_102 fl_X12_199 kc_12 (gv_102_97 _) ?_
        refine zr_aload_n (pc' := 57) (i := 0) dX12_candidate_56 rfl rfl rfl ?_
        refine zr_get (pc' := 60) dX12_candidate_57 rfl ps_102 kd_102 fl_X12_420 kc_12 (gv_102_96 _) ?_
        refine zr_iload_n (pc' := 61) (i := 1) dX12_candidate_60 rfl rfl rfl ?_
        refine zr_iast (pc' := 62) dX12_candidate_61 rfl ps_162 kd_162 (by decide) h.1.1 h.1.2 (fun M4 hM1 => ?_)
        have h := h.2 M4 hM1
        refine zr_aload_n (pc' := 63) (i := 0) dX12_candidate_62 rfl rfl rfl ?_
        refine zr_dup (pc' := 64) dX12_candidate_63 rfl rfl ?_
        refine zr_get (pc' := 67) dX12_candidate_64 rfl ps_102 kd_102 fl_X12_420 kc_12 (gv_102_96 _) ?_
        refine zr_iconst (pc' := 68) dX12_candidate_67 rfl ?_
        refine zr_iadd (pc' := 69) dX12_candidate_68 rfl ?_
        refine zr_put (pc' := 72) dX12_candidate_69 rfl ps_102 kd_102 fl_X12_420 kc_12 rfl nf_102_96 rfl trivial (fun M5 hM1 => ?_)
        have h := h M5 hM1
        refine zr_aload_n (pc' := 73) (i := 0) dX12_candidate_72 rfl rfl rfl ?_
        refine zr_get (pc' := 76) dX12_candidate_73 rfl ps_102 kd_102 fl_X12_420 kc_12 (gv_102_96 _) ?_
        refine zr_iconst (pc' := 77) dX12_candidate_76 rfl ?_
        refine zr_isub (pc' := 78) dX12_candidate_77 rfl ?_
        exact zr_ireturn dX12_candidate_78 rfl rfl trivial (Nat.le_refl _) (Nat.le_refl _) (And.intro rfl h)
      · have h := h.2.2 hc
        refine zr_aload_n (pc' := 35) (i := 0) dX12_candidate_34 rfl rfl rfl ?_
        refine zr_get (pc' := 38) dX12_candidate_35 rfl ps_102 kd_102 fl_X12_199 kc_12 (gv_102_97 _) ?_
        refine zr_iload_n (pc' := 39) (i := 2) dX12_candidate_38 rfl rfl rfl ?_
        refine zr_iald (pc' := 40) dX12_candidate_39 rfl ps_162 kd_162 (by decide) h.1.1 h.1.2 ?_
        have h := h.2
        refine zr_iload_n (pc' := 41) (i := 1) dX12_candidate_40 rfl rfl rfl ?_
        refine zr_icmp_ne (tgt := 46) (pc' := 44) dX12_candidate_41 rfl rfl h.1.1 h.1.2 (fun hc => ?_) (fun hc => ?_)
        · have h := h.2.1 hc
          refine zr_iinc (pc' := 49) (al' := [(2, .inl (l2 + 1)), (0, .inr (.inr 102)), (1, .inl l1)]) dX12_candidate_46 rfl rfl (by decide) rfl ?_
          refine zr_goto (pc' := 26) dX12_candidate_49 rfl ?_
          obtain ⟨n', hn, h⟩ := h
          exact zn_al ((ih n' hn) _ _ _ h) ⟨rfl, rfl, rfl, trivial⟩
        · have h := h.2.2 hc
          refine zr_iconst (pc' := 45) dX12_candidate_44 rfl ?_
          exact zr_ireturn dX12_candidate_45 rfl rfl trivial (Nat.le_refl _) (Nat.le_refl _) (And.intro rfl h)
  refine zP_of (by decide +kernel) rfl (Nat.le_of_ble_eq_true rfl) ?_
  show zA E zNN (0, 0) mX12_candidate 0 [(0, .inr (.inr 102)), (1, .inl l1)] [] M (zQ Q)
  refine zr_aload_n (pc' := 1) (i := 0) dX12_candidate_0 rfl rfl rfl ?_
  refine zr_iconst (pc' := 2) dX12_candidate_1 rfl ?_
  refine zr_put (pc' := 5) dX12_candidate_2 rfl ps_102 kd_102 fl_X12_208 kc_12 rfl nf_102_2 rfl trivial (fun M1 hM1 => ?_)
  have h := h M1 hM1
  refine zr_aload_n (pc' := 6) (i := 0) dX12_candidate_5 rfl rfl rfl ?_
  refine zr_get (pc' := 9) dX12_candidate_6 rfl ps_102 kd_102 fl_X12_420 kc_12 (gv_102_96 _) ?_
  refine zr_bipush (pc' := 11) dX12_candidate_9 rfl rfl ?_
  refine zr_icmp_eq (tgt := 22) (pc' := 14) dX12_candidate_11 rfl rfl h.1 (zRd rfl) (fun hc => ?_) (fun hc => ?_)
  · have h := h.2.1 hc
    refine zr_iconst (pc' := 23) dX12_candidate_22 rfl ?_
    exact zr_ireturn dX12_candidate_23 rfl rfl trivial (Nat.le_refl _) (Nat.le_refl _) (And.intro rfl h)
  · have h := h.2.2 hc
    refine zr_aload_n (pc' := 15) (i := 0) dX12_candidate_14 rfl rfl rfl ?_
    refine zr_iload_n (pc' := 16) (i := 1) dX12_candidate_15 rfl rfl rfl ?_
    refine zn_callV (pc' := 19) (args := [.inl l1]) (st := []) (st' := fun r2 => [.inl r2]) dX12_candidate_16 rfl cv_X12_423 ⟨rfl, rfl, by decide, by decide⟩ rfl ps_102 kd_102 rfl rfl (Nat.le_of_ble_eq_true rfl) (fun _ => rfl) h ?_
    intro r2 M3 h
    refine zr_if_ne (tgt := 24) (pc' := 22) dX12_candidate_19 rfl rfl h.1 (fun hc => ?_) (fun hc => ?_)
    · have h := h.2.1 hc
      refine zr_iconst (pc' := 25) dX12_candidate_24 rfl ?_
      refine zr_istore_n (pc' := 26) (i := 2) (al' := [(2, .inl 0), (0, .inr (.inr 102)), (1, .inl l1)]) dX12_candidate_25 rfl rfl (by decide) rfl ?_
      obtain ⟨n', h⟩ := h
      exact zn_al ((key n') _ _ _ h) ⟨rfl, rfl, rfl, trivial⟩
    · have h := h.2.2 hc
      refine zr_iconst (pc' := 23) dX12_candidate_22 rfl ?_
      exact zr_ireturn dX12_candidate_23 rfl rfl trivial (Nat.le_refl _) (Nat.le_refl _) (And.intro rfl h)
set_option maxRecDepth 20000 in
theorem vcX12_tries1 {E : zE} {M : zM} {Q : Int → zM → Prop} (l1 l2 l3 : Int)
    (h : (zP E mX12_costs [.inr (.inr 102)] M (fun r1 M2 => ((zR (M2 102 100)) ∧ (((M2 102 100) < 0 → (∀ M3, M3 = zup M2 102 100 l1 → (∀ M4, M4 = zup M3 102 101 l2 → (∀ M5, M5 = zup M4 102 102 l3 → (∀ M6, M6 = zup M5 102 103 (M5 102 98) → (∀ M7, M7 = zup M6 102 104 (M6 102 99) → Q 0 M7)))))) ∧ (0 ≤ (M2 102 100) → ((zR (M2 102 98) ∧ zR (M2 102 103)) ∧ (((M2 102 98) < (M2 102 103) → (∀ M8, M8 = zup M2 102 100 l1 → (∀ M9, M9 = zup M8 102 101 l2 → (∀ M10, M10 = zup M9 102 102 l3 → (∀ M11, M11 = zup M10 102 103 (M10 102 98) → (∀ M12, M12 = zup M11 102 104 (M11 102 99) → Q 0 M12)))))) ∧ ((M2 102 103) ≤ (M2 102 98) → ((zR (M2 102 98) ∧ zR (M2 102 103)) ∧ ((¬ (M2 102 98) = (M2 102 103) → Q 0 M2) ∧ ((M2 102 98) = (M2 102 103) → ((zR (M2 102 99) ∧ zR (M2 102 104)) ∧ (((M2 102 104) ≤ (M2 102 99) → Q 0 M2) ∧ ((M2 102 99) < (M2 102 104) → (∀ M13, M13 = zup M2 102 100 l1 → (∀ M14, M14 = zup M13 102 101 l2 → (∀ M15, M15 = zup M14 102 102 l3 → (∀ M16, M16 = zup M15 102 103 (M15 102 98) → (∀ M17, M17 = zup M16 102 104 (M16 102 99) → Q 0 M17))))))))))))))))))))
    : zP E mX12_tries1 [.inr (.inr 102), .inl l1, .inl l2, .inl l3] M Q := by
  refine zP_of (by decide +kernel) rfl (Nat.le_of_ble_eq_true rfl) ?_
  show zA E zNN (0, 0) mX12_tries1 0 [(0, .inr (.inr 102)), (1, .inl l1), (2, .inl l2), (3, .inl l3)] [] M (zQ Q)
  refine zr_aload_n (pc' := 1) (i := 0) dX12_tries1_0 rfl rfl rfl ?_
  refine zn_callV (pc' := 4) (args := []) (st := []) (st' := fun _ => []) dX12_tries1_1 rfl cv_X12_521 ⟨rfl, rfl, by decide, by decide⟩ rfl ps_102 kd_102 rfl rfl (Nat.le_of_ble_eq_true rfl) (fun _ => rfl) h ?_
  intro r1 M2 h
  refine zr_aload_n (pc' := 5) (i := 0) dX12_tries1_4 rfl rfl rfl ?_
  refine zr_get (pc' := 8) dX12_tries1_5 rfl ps_102 kd_102 fl_X12_524 kc_12 (gv_102_100 _) ?_
  refine zr_if_lt (tgt := 44) (pc' := 11) dX12_tries1_8 rfl rfl h.1 (fun hc => ?_) (fun hc => ?_)
  · have h := h.2.1 hc
    refine zr_iconst (pc' := 45) dX12_tries1_44 rfl ?_
    refine zr_goto (pc' := 49) dX12_tries1_45 rfl ?_
    refine zr_istore (pc' := 51) (al' := [(4, .inl 1), (0, .inr (.inr 102)), (1, .inl l1), (2, .inl l2), (3, .inl l3)]) dX12_tries1_49 rfl (by decide) rfl ?_
    refine zr_iload (pc' := 53) dX12_tries1_51 rfl rfl ?_
    refine zr_if_ne (tgt := 57) (pc' := 56) dX12_tries1_53 rfl rfl (zRd rfl) (fun _ => ?_) (fun hc => absurd hc (by decide))
    refine zr_aload_n (pc' := 58) (i := 0) dX12_tries1_57 rfl rfl rfl ?_
    refine zr_iload_n (pc' := 59) (i := 1) dX12_tries1_58 rfl rfl rfl ?_
    refine zr_put (pc' := 62) dX12_tries1_59 rfl ps_102 kd_102 fl_X12_524 kc_12 rfl nf_102_100 rfl trivial (fun M3 hM1 => ?_)
    have h := h M3 hM1
    refine zr_aload_n (pc' := 63) (i := 0) dX12_tries1_62 rfl rfl rfl ?_
    refine zr_iload_n (pc' := 64) (i := 2) dX12_tries1_63 rfl rfl rfl ?_
    refine zr_put (pc' := 67) dX12_tries1_64 rfl ps_102 kd_102 fl_X12_533 kc_12 rfl nf_102_101 rfl trivial (fun M4 hM1 => ?_)
    have h := h M4 hM1
    refine zr_aload_n (pc' := 68) (i := 0) dX12_tries1_67 rfl rfl rfl ?_
    refine zr_iload_n (pc' := 69) (i := 3) dX12_tries1_68 rfl rfl rfl ?_
    refine zr_put (pc' := 72) dX12_tries1_69 rfl ps_102 kd_102 fl_X12_536 kc_12 rfl nf_102_102 rfl trivial (fun M5 hM1 => ?_)
    have h := h M5 hM1
    refine zr_aload_n (pc' := 73) (i := 0) dX12_tries1_72 rfl rfl rfl ?_
    refine zr_aload_n (pc' := 74) (i := 0) dX12_tries1_73 rfl rfl rfl ?_
    refine zr_get (pc' := 77) dX12_tries1_74 rfl ps_102 kd_102 fl_X12_515 kc_12 (gv_102_98 _) ?_
    refine zr_put (pc' := 80) dX12_tries1_77 rfl ps_102 kd_102 fl_X12_527 kc_12 rfl nf_102_103 rfl trivial (fun M6 hM1 => ?_)
    have h := h M6 hM1
    refine zr_aload_n (pc' := 81) (i := 0) dX12_tries1_80 rfl rfl rfl ?_
    refine zr_aload_n (pc' := 82) (i := 0) dX12_tries1_81 rfl rfl rfl ?_
    refine zr_get (pc' := 85) dX12_tries1_82 rfl ps_102 kd_102 fl_X12_518 kc_12 (gv_102_99 _) ?_
    refine zr_put (pc' := 88) dX12_tries1_85 rfl ps_102 kd_102 fl_X12_530 kc_12 rfl nf_102_104 rfl trivial (fun M7 hM1 => ?_)
    have h := h M7 hM1
    exact zr_return (x := 0) dX12_tries1_88 rfl (Nat.le_refl _) (Nat.le_refl _) (And.intro rfl h)
  · have h := h.2.2 hc
    refine zr_aload_n (pc' := 12) (i := 0) dX12_tries1_11 rfl rfl rfl ?_
    refine zr_get (pc' := 15) dX12_tries1_12 rfl ps_102 kd_102 fl_X12_515 kc_12 (gv_102_98 _) ?_
    refine zr_aload_n (pc' := 16) (i := 0) dX12_tries1_15 rfl rfl rfl ?_
    refine zr_get (pc' := 19) dX12_tries1_16 rfl ps_102 kd_102 fl_X12_527 kc_12 (gv_102_103 _) ?_
    refine zr_icmp_lt (tgt := 44) (pc' := 22) dX12_tries1_19 rfl rfl h.1.1 h.1.2 (fun hc => ?_) (fun hc => ?_)
    · have h := h.2.1 hc
      refine zr_iconst (pc' := 45) dX12_tries1_44 rfl ?_
      refine zr_goto (pc' := 49) dX12_tries1_45 rfl ?_
      refine zr_istore (pc' := 51) (al' := [(4, .inl 1), (0, .inr (.inr 102)), (1, .inl l1), (2, .inl l2), (3, .inl l3)]) dX12_tries1_49 rfl (by decide) rfl ?_
      refine zr_iload (pc' := 53) dX12_tries1_51 rfl rfl ?_
      refine zr_if_ne (tgt := 57) (pc' := 56) dX12_tries1_53 rfl rfl (zRd rfl) (fun _ => ?_) (fun hc => absurd hc (by decide))
      refine zr_aload_n (pc' := 58) (i := 0) dX12_tries1_57 rfl rfl rfl ?_
      refine zr_iload_n (pc' := 59) (i := 1) dX12_tries1_58 rfl rfl rfl ?_
      refine zr_put (pc' := 62) dX12_tries1_59 rfl ps_102 kd_102 fl_X12_524 kc_12 rfl nf_102_100 rfl trivial (fun M8 hM1 => ?_)
      have h := h M8 hM1
      refine zr_aload_n (pc' := 63) (i := 0) dX12_tries1_62 rfl rfl rfl ?_
      refine zr_iload_n (pc' := 64) (i := 2) dX12_tries1_63 rfl rfl rfl ?_
      refine zr_put (pc' := 67) dX12_tries1_64 rfl ps_102 kd_102 fl_X12_533 kc_12 rfl nf_102_101 rfl trivial (fun M9 hM1 => ?_)
      have h := h M9 hM1
      refine zr_aload_n (pc' := 68) (i := 0) dX12_tries1_67 rfl rfl rfl ?_
      refine zr_iload_n (pc' := 69) (i := 3) dX12_tries1_68 rfl rfl rfl ?_
      refine zr_put (pc' := 72) dX12_tries1_69 rfl ps_102 kd_102 fl_X12_536 kc_12 rfl nf_102_102 rfl trivial (fun M10 hM1 => ?_)
      have h := h M10 hM1
      refine zr_aload_n (pc' := 73) (i := 0) dX12_tries1_72 rfl rfl rfl ?_
      refine zr_aload_n (pc' := 74) (i := 0) dX12_tries1_73 rfl rfl rfl ?_
      refine zr_get (pc' := 77) dX12_tries1_74 rfl ps_102 kd_102 fl_X12_515 kc_12 (gv_102_98 _) ?_
      refine zr_put (pc' := 80) dX12_tries1_77 rfl ps_102 kd_102 fl_X12_527 kc_12 rfl nf_102_103 rfl trivial (fun M11 hM1 => ?_)
      have h := h M11 hM1
      refine zr_aload_n (pc' := 81) (i := 0) dX12_tries1_80 rfl rfl rfl ?_
      refine zr_aload_n (pc' := 82) (i := 0) dX12_tries1_81 rfl rfl rfl ?_
      refine zr_get (pc' := 85) dX12_tries1_82 rfl ps_102 kd_102 fl_X12_518 kc_12 (gv_102_99 _) ?_
      refine zr_put (pc' := 88) dX12_tries1_85 rfl ps_102 kd_102 fl_X12_530 kc_12 rfl nf_102_104 rfl trivial (fun M12 hM1 => ?_)
      have h := h M12 hM1
      exact zr_return (x := 0) dX12_tries1_88 rfl (Nat.le_refl _) (Nat.le_refl _) (And.intro rfl h)
    · have h := h.2.2 hc
      refine zr_aload_n (pc' := 23) (i := 0) dX12_tries1_22 rfl rfl rfl ?_
      refine zr_get (pc' := 26) dX12_tries1_23 rfl ps_102 kd_102 fl_X12_515 kc_12 (gv_102_98 _) ?_
      refine zr_aload_n (pc' := 27) (i := 0) dX12_tries1_26 rfl rfl rfl ?_
      refine zr_get (pc' := 30) dX12_tries1_27 rfl ps_102 kd_102 fl_X12_527 kc_12 (gv_102_103 _) ?_
      refine zr_icmp_ne (tgt := 48) (pc' := 33) dX12_tries1_30 rfl rfl h.1.1 h.1.2 (fun hc => ?_) (fun hc => ?_)
      · have h := h.2.1 hc
        refine zr_iconst (pc' := 49) dX12_tries1_48 rfl ?_
        refine zr_istore (pc' := 51) (al' := [(4, .inl 0), (0, .inr (.inr 102)), (1, .inl l1), (2, .inl l2), (3, .inl l3)]) dX12_tries1_49 rfl (by decide) rfl ?_
        refine zr_iload (pc' := 53) dX12_tries1_51 rfl rfl ?_
        refine zr_if_ne (tgt := 57) (pc' := 56) dX12_tries1_53 rfl rfl (zRd rfl) (fun hc => absurd hc (by decide)) (fun _ => ?_)
        exact zr_return (x := 0) dX12_tries1_56 rfl (Nat.le_refl _) (Nat.le_refl _) (And.intro rfl h)
      · have h := h.2.2 hc
        refine zr_aload_n (pc' := 34) (i := 0) dX12_tries1_33 rfl rfl rfl ?_
        refine zr_get (pc' := 37) dX12_tries1_34 rfl ps_102 kd_102 fl_X12_518 kc_12 (gv_102_99 _) ?_
        refine zr_aload_n (pc' := 38) (i := 0) dX12_tries1_37 rfl rfl rfl ?_
        refine zr_get (pc' := 41) dX12_tries1_38 rfl ps_102 kd_102 fl_X12_530 kc_12 (gv_102_104 _) ?_
        refine zr_icmp_ge (tgt := 48) (pc' := 44) dX12_tries1_41 rfl rfl h.1.1 h.1.2 (fun hc => ?_) (fun hc => ?_)
        · have h := h.2.1 hc
          refine zr_iconst (pc' := 49) dX12_tries1_48 rfl ?_
          refine zr_istore (pc' := 51) (al' := [(4, .inl 0), (0, .inr (.inr 102)), (1, .inl l1), (2, .inl l2), (3, .inl l3)]) dX12_tries1_49 rfl (by decide) rfl ?_
          refine zr_iload (pc' := 53) dX12_tries1_51 rfl rfl ?_
          refine zr_if_ne (tgt := 57) (pc' := 56) dX12_tries1_53 rfl rfl (zRd rfl) (fun hc => absurd hc (by decide)) (fun _ => ?_)
          exact zr_return (x := 0) dX12_tries1_56 rfl (Nat.le_refl _) (Nat.le_refl _) (And.intro rfl h)
        · have h := h.2.2 hc
          refine zr_iconst (pc' := 45) dX12_tries1_44 rfl ?_
          refine zr_goto (pc' := 49) dX12_tries1_45 rfl ?_
          refine zr_istore (pc' := 51) (al' := [(4, .inl 1), (0, .inr (.inr 102)), (1, .inl l1), (2, .inl l2), (3, .inl l3)]) dX12_tries1_49 rfl (by decide) rfl ?_
          refine zr_iload (pc' := 53) dX12_tries1_51 rfl rfl ?_
          refine zr_if_ne (tgt := 57) (pc' := 56) dX12_tries1_53 rfl rfl (zRd rfl) (fun _ => ?_) (fun hc => absurd hc (by decide))
          refine zr_aload_n (pc' := 58) (i := 0) dX12_tries1_57 rfl rfl rfl ?_
          refine zr_iload_n (pc' := 59) (i := 1) dX12_tries1_58 rfl rfl rfl ?_
          refine zr_put (pc' := 62) dX12_tries1_59 rfl ps_102 kd_102 fl_X12_524 kc_12 rfl nf_102_100 rfl trivial (fun M13 hM1 => ?_)
          have h := h M13 hM1
          refine zr_aload_n (pc' := 63) (i := 0) dX12_tries1_62 rfl rfl rfl ?_
          refine zr_iload_n (pc' := 64) (i := 2) dX12_tries1_63 rfl rfl rfl ?_
          refine zr_put (pc' := 67) dX12_tries1_64 rfl ps_102 kd_102 fl_X12_533 kc_12 rfl nf_102_101 rfl trivial (fun M14 hM1 => ?_)
          have h := h M14 hM1
          refine zr_aload_n (pc' := 68) (i := 0) dX12_tries1_67 rfl rfl rfl ?_
          refine zr_iload_n (pc' := 69) (i := 3) dX12_tries1_68 rfl rfl rfl ?_
          refine zr_put (pc' := 72) dX12_tries1_69 rfl ps_102 kd_102 fl_X12_536 kc_12 rfl nf_102_102 rfl trivial (fun M15 hM1 => ?_)
          have h := h M15 hM1
          refine zr_aload_n (pc' := 73) (i := 0) dX12_tries1_72 rfl rfl rfl ?_
          refine zr_aload_n (pc' := 74) (i := 0) dX12_tries1_73 rfl rfl rfl ?_
          refine zr_get (pc' := 77) dX12_tries1_74 rfl ps_102 kd_102 fl_X12_515 kc_12 (gv_102_98 _) ?_
          refine zr_put (pc' := 80) dX12_tries1_77 rfl ps_102 kd_102 fl_X12_527 kc_12 rfl nf_102_103 rfl trivial (fun M16 hM1 => ?_)
          have h := h M16 hM1
          refine zr_aload_n (pc' := 81) (i := 0) dX12_tries1_80 rfl rfl rfl ?_
          refine zr_aload_n (pc' := 82) (i := 0) dX12_tries1_81 rfl rfl rfl ?_
          refine zr_get (pc' := 85) dX12_tries1_82 rfl ps_102 kd_102 fl_X12_518 kc_12 (gv_102_99 _) ?_
          refine zr_put (pc' := 88) dX12_tries1_85 rfl ps_102 kd_102 fl_X12_530 kc_12 rfl nf_102_104 rfl trivial (fun M17 hM1 => ?_)
          have h := h M17 hM1
          exact zr_return (x := 0) dX12_tries1_88 rfl (Nat.le_refl _) (Nat.le_refl _) (And.intro rfl h)
set_option maxRecDepth 20000 in
theorem vcX12_canBuild {E : zE} {M : zM} {Q : Int → zM → Prop} (l1 : Int)
    (h : (zR l1) ∧ (0 ≤ Int.tdiv l1 2 ∧ Int.tdiv l1 2 < 6) ∧ (zR l1) ∧ ((zR (Int.tmod l1 2)) ∧ ((¬ (Int.tmod l1 2) = 1 → (zP E mX12_mayWork [.inr (.inr 102), .inl (M 162 ((Int.tdiv l1 2).toNat)), .inl 0] M (fun r1 M2 => ((r1 = 0 ∨ r1 = 1) ∧ Q r1 M2)))) ∧ ((Int.tmod l1 2) = 1 → (zP E mX12_mayWork [.inr (.inr 102), .inl (M 162 ((Int.tdiv l1 2).toNat)), .inl 1] M (fun r3 M4 => ((r3 = 0 ∨ r3 = 1) ∧ Q r3 M4)))))))
    : zP E mX12_canBuild [.inr (.inr 102), .inl l1] M Q := by
  refine zP_of (by decide +kernel) rfl (Nat.le_of_ble_eq_true rfl) ?_
  show zA E zNN (0, 0) mX12_canBuild 0 [(0, .inr (.inr 102)), (1, .inl l1)] [] M (zQ Q)
  refine zr_aload_n (pc' := 1) (i := 0) dX12_canBuild_0 rfl rfl rfl ?_
  refine zr_aload_n (pc' := 2) (i := 0) dX12_canBuild_1 rfl rfl rfl ?_
  refine zr_get (pc' := 5) dX12_canBuild_2 rfl ps_102 kd_102 fl_X12_199 kc_12 (gv_102_97 _) ?_
  refine zr_iload_n (pc' := 6) (i := 1) dX12_canBuild_5 rfl rfl rfl ?_
  refine zr_iconst (pc' := 7) dX12_canBuild_6 rfl ?_
  refine zr_idiv (pc' := 8) dX12_canBuild_7 rfl h.1 (zRd rfl) (by decide) ?_
  have h := h.2
  refine zr_iald (pc' := 9) dX12_canBuild_8 rfl ps_162 kd_162 (by decide) h.1.1 h.1.2 ?_
  have h := h.2
  refine zr_iload_n (pc' := 10) (i := 1) dX12_canBuild_9 rfl rfl rfl ?_
  refine zr_iconst (pc' := 11) dX12_canBuild_10 rfl ?_
  refine zr_irem (pc' := 12) dX12_canBuild_11 rfl h.1 (zRd rfl) (by decide) ?_
  have h := h.2
  refine zr_iconst (pc' := 13) dX12_canBuild_12 rfl ?_
  refine zr_icmp_ne (tgt := 20) (pc' := 16) dX12_canBuild_13 rfl rfl h.1 (zRd rfl) (fun hc => ?_) (fun hc => ?_)
  · have h := h.2.1 hc
    refine zr_iconst (pc' := 21) dX12_canBuild_20 rfl ?_
    refine zn_callV (pc' := 24) (args := [.inl (M 162 ((Int.tdiv l1 2).toNat)), .inl 0]) (st := []) (st' := fun r1 => [.inl r1]) dX12_canBuild_21 rfl cv_X12_430 ⟨rfl, rfl, by decide, by decide⟩ rfl ps_102 kd_102 rfl rfl (Nat.le_of_ble_eq_true rfl) (fun _ => rfl) h ?_
    intro r1 M2 h
    exact zr_ireturn dX12_canBuild_24 rfl rfl h.1 (Nat.le_refl _) (Nat.le_refl _) (And.intro rfl h.2)
  · have h := h.2.2 hc
    refine zr_iconst (pc' := 17) dX12_canBuild_16 rfl ?_
    refine zr_goto (pc' := 21) dX12_canBuild_17 rfl ?_
    refine zn_callV (pc' := 24) (args := [.inl (M 162 ((Int.tdiv l1 2).toNat)), .inl 1]) (st := []) (st' := fun r3 => [.inl r3]) dX12_canBuild_21 rfl cv_X12_430 ⟨rfl, rfl, by decide, by decide⟩ rfl ps_102 kd_102 rfl rfl (Nat.le_of_ble_eq_true rfl) (fun _ => rfl) h ?_
    intro r3 M4 h
    exact zr_ireturn dX12_canBuild_24 rfl rfl h.1 (Nat.le_refl _) (Nat.le_refl _) (And.intro rfl h.2)
set_option maxRecDepth 20000 in
theorem vcX12_build {E : zE} {M : zM} {Q : Int → zM → Prop} (l1 l2 : Int)
    (h : (zR l1) ∧ (0 ≤ Int.tdiv l1 2 ∧ Int.tdiv l1 2 < 6) ∧ (zR l1) ∧ ((zR (Int.tmod l1 2)) ∧ ((¬ (Int.tmod l1 2) = 1 → (zP E mX12_setWork [.inr (.inr 102), .inl (M 162 ((Int.tdiv l1 2).toNat)), .inl 0, .inl l2] M (fun r1 M2 => Q 0 M2))) ∧ ((Int.tmod l1 2) = 1 → (zP E mX12_setWork [.inr (.inr 102), .inl (M 162 ((Int.tdiv l1 2).toNat)), .inl 1, .inl l2] M (fun r3 M4 => Q 0 M4))))))
    : zP E mX12_build [.inr (.inr 102), .inl l1, .inl l2] M Q := by
  refine zP_of (by decide +kernel) rfl (Nat.le_of_ble_eq_true rfl) ?_
  show zA E zNN (0, 0) mX12_build 0 [(0, .inr (.inr 102)), (1, .inl l1), (2, .inl l2)] [] M (zQ Q)
  refine zr_aload_n (pc' := 1) (i := 0) dX12_build_0 rfl rfl rfl ?_
  refine zr_aload_n (pc' := 2) (i := 0) dX12_build_1 rfl rfl rfl ?_
  refine zr_get (pc' := 5) dX12_build_2 rfl ps_102 kd_102 fl_X12_199 kc_12 (gv_102_97 _) ?_
  refine zr_iload_n (pc' := 6) (i := 1) dX12_build_5 rfl rfl rfl ?_
  refine zr_iconst (pc' := 7) dX12_build_6 rfl ?_
  refine zr_idiv (pc' := 8) dX12_build_7 rfl h.1 (zRd rfl) (by decide) ?_
  have h := h.2
  refine zr_iald (pc' := 9) dX12_build_8 rfl ps_162 kd_162 (by decide) h.1.1 h.1.2 ?_
  have h := h.2
  refine zr_iload_n (pc' := 10) (i := 1) dX12_build_9 rfl rfl rfl ?_
  refine zr_iconst (pc' := 11) dX12_build_10 rfl ?_
  refine zr_irem (pc' := 12) dX12_build_11 rfl h.1 (zRd rfl) (by decide) ?_
  have h := h.2
  refine zr_iconst (pc' := 13) dX12_build_12 rfl ?_
  refine zr_icmp_ne (tgt := 20) (pc' := 16) dX12_build_13 rfl rfl h.1 (zRd rfl) (fun hc => ?_) (fun hc => ?_)
  · have h := h.2.1 hc
    refine zr_iconst (pc' := 21) dX12_build_20 rfl ?_
    refine zr_iload_n (pc' := 22) (i := 2) dX12_build_21 rfl rfl rfl ?_
    refine zn_callV (pc' := 25) (args := [.inl (M 162 ((Int.tdiv l1 2).toNat)), .inl 0, .inl l2]) (st := []) (st' := fun _ => []) dX12_build_22 rfl cv_X12_433 ⟨rfl, rfl, by decide, by decide⟩ rfl ps_102 kd_102 rfl rfl (Nat.le_of_ble_eq_true rfl) (fun _ => rfl) h ?_
    intro r1 M2 h
    exact zr_return (x := 0) dX12_build_25 rfl (Nat.le_refl _) (Nat.le_refl _) (And.intro rfl h)
  · have h := h.2.2 hc
    refine zr_iconst (pc' := 17) dX12_build_16 rfl ?_
    refine zr_goto (pc' := 21) dX12_build_17 rfl ?_
    refine zr_iload_n (pc' := 22) (i := 2) dX12_build_21 rfl rfl rfl ?_
    refine zn_callV (pc' := 25) (args := [.inl (M 162 ((Int.tdiv l1 2).toNat)), .inl 1, .inl l2]) (st := []) (st' := fun _ => []) dX12_build_22 rfl cv_X12_433 ⟨rfl, rfl, by decide, by decide⟩ rfl ps_102 kd_102 rfl rfl (Nat.le_of_ble_eq_true rfl) (fun _ => rfl) h ?_
    intro r3 M4 h
    exact zr_return (x := 0) dX12_build_25 rfl (Nat.le_refl _) (Nat.le_refl _) (And.intro rfl h)
set_option maxRecDepth 20000 in
theorem vcX12_best {E : zE} {M : zM} {Q : Int → zM → Prop} (l1 l2 : Int) (I43 : Nat → Int → Int → Int → zM → Prop) (I95 : Nat → Int → Int → Int → zM → Prop) (I136 : Nat → Int → Int → Int → Int → zM → Prop)
    (h : (∀ M1, M1 = zup M 102 2 0 → (zP E mX12_isIn [.inl l1, .inl 0, .inl 2] M1 (fun r2 M3 => ((zR r2) ∧ ((r2 = 0 → Q (-1) M3) ∧ (¬ r2 = 0 → (zP E mX12_isIn [.inl l2, .inl 0, .inl 4] M3 (fun r4 M5 => ((zR r4) ∧ ((¬ r4 = 0 → (zP E mX12_allLevels [.inr (.inr 102)] M5 (fun r6 M7 => (∀ M8, M8 = zup M7 102 100 (-1) → (zP E mX12_tries1 [.inr (.inr 102), .inl 0, .inl (-1), .inl (-1)] M8 (fun r9 M10 => ∃ n', I43 n' l1 l2 0 M10)))))) ∧ (r4 = 0 → Q (-1) M5))))))))))))
    (h43 : ∀ (n : Nat) (l1 l2 l3 : Int) (M : zM), I43 n l1 l2 l3 M → ((zR l3 ∧ zR (2 * (M 102 96))) ∧ (((2 * (M 102 96)) ≤ l3 → ∃ n', n' < n ∧ I95 n' l1 l2 0 M) ∧ (l3 < (2 * (M 102 96)) → ((zR l1) ∧ ((l1 ≤ 0 → ∃ n', n' < n ∧ I95 n' l1 l2 0 M) ∧ (0 < l1 → (zP E mX12_canBuild [.inr (.inr 102), .inl l3] M (fun r11 M12 => ((zR r11) ∧ ((¬ r11 = 0 → (zP E mX12_build [.inr (.inr 102), .inl l3, .inl 1] M12 (fun r13 M14 => (zP E mX12_tries1 [.inr (.inr 102), .inl 1, .inl l3, .inl (-1)] M14 (fun r15 M16 => (zP E mX12_build [.inr (.inr 102), .inl l3, .inl 0] M16 (fun r17 M18 => ∃ n', n' < n ∧ I43 n' l1 l2 (l3 + 1) M18))))))) ∧ (r11 = 0 → ∃ n', n' < n ∧ I43 n' l1 l2 (l3 + 1) M12))))))))))))
    (h95 : ∀ (n : Nat) (l1 l2 l3 : Int) (M : zM), I95 n l1 l2 l3 M → ((zR l3 ∧ zR (2 * (M 102 96))) ∧ (((2 * (M 102 96)) ≤ l3 → ((zR l2) ∧ ((¬ l2 = 0 → ((zR l2) ∧ ((¬ l2 = 1 → ((zR l2) ∧ ((¬ l2 = 2 → ((zR l2) ∧ ((¬ l2 = 3 → Q (M 102 104) M) ∧ (l2 = 3 → Q (M 102 103) M)))) ∧ (l2 = 2 → Q (M 102 102) M)))) ∧ (l2 = 1 → Q (M 102 101) M)))) ∧ (l2 = 0 → Q (M 102 100) M)))) ∧ (l3 < (2 * (M 102 96)) → ((zR l1) ∧ ((l1 ≤ 1 → ((zR l2) ∧ ((¬ l2 = 0 → ((zR l2) ∧ ((¬ l2 = 1 → ((zR l2) ∧ ((¬ l2 = 2 → ((zR l2) ∧ ((¬ l2 = 3 → Q (M 102 104) M) ∧ (l2 = 3 → Q (M 102 103) M)))) ∧ (l2 = 2 → Q (M 102 102) M)))) ∧ (l2 = 1 → Q (M 102 101) M)))) ∧ (l2 = 0 → Q (M 102 100) M)))) ∧ (1 < l1 → (zP E mX12_canBuild [.inr (.inr 102), .inl l3] M (fun r19 M20 => ((zR r19) ∧ ((¬ r19 = 0 → (zP E mX12_build [.inr (.inr 102), .inl l3, .inl 1] M20 (fun r21 M22 => (zR l3) ∧ ∃ n', n' < n ∧ I136 n' l1 l2 l3 (((Int.tdiv l3 2) * 2) + 2) M22))) ∧ (r19 = 0 → ∃ n', n' < n ∧ I95 n' l1 l2 (l3 + 1) M20))))))))))))
    (h136 : ∀ (n : Nat) (l1 l2 l3 l4 : Int) (M : zM), I136 n l1 l2 l3 l4 M → ((zR l4 ∧ zR (2 * (M 102 96))) ∧ (((2 * (M 102 96)) ≤ l4 → (zP E mX12_build [.inr (.inr 102), .inl l3, .inl 0] M (fun r23 M24 => ∃ n', n' < n ∧ I95 n' l1 l2 (l3 + 1) M24))) ∧ (l4 < (2 * (M 102 96)) → (zP E mX12_canBuild [.inr (.inr 102), .inl l4] M (fun r25 M26 => ((zR r25) ∧ ((¬ r25 = 0 → (zP E mX12_build [.inr (.inr 102), .inl l4, .inl 1] M26 (fun r27 M28 => (zP E mX12_tries1 [.inr (.inr 102), .inl 2, .inl l3, .inl l4] M28 (fun r29 M30 => (zP E mX12_build [.inr (.inr 102), .inl l4, .inl 0] M30 (fun r31 M32 => ∃ n', n' < n ∧ I136 n' l1 l2 l3 (l4 + 1) M32))))))) ∧ (r25 = 0 → ∃ n', n' < n ∧ I136 n' l1 l2 l3 (l4 + 1) M26)))))))))
    : zP E mX12_best [.inr (.inr 102), .inl l1, .inl l2] M Q := by
  have key : ∀ n : Nat, (∀ (l1 l2 l3 : Int) (M : zM), I43 n l1 l2 l3 M → zA E zNN (0, 0) mX12_best 43 [(0, .inr (.inr 102)), (1, .inl l1), (2, .inl l2), (3, .inl l3)] [] M (zQ Q)) ∧ (∀ (l1 l2 l3 : Int) (M : zM), I95 n l1 l2 l3 M → zA E zNN (0, 0) mX12_best 95 [(0, .inr (.inr 102)), (1, .inl l1), (2, .inl l2), (3, .inl l3)] [] M (zQ Q)) ∧ (∀ (l1 l2 l3 l4 : Int) (M : zM), I136 n l1 l2 l3 l4 M → zA E zNN (0, 0) mX12_best 136 [(0, .inr (.inr 102)), (1, .inl l1), (2, .inl l2), (3, .inl l3), (4, .inl l4)] [] M (zQ Q)) := by
    intro n
    induction n using Nat.strongRecOn with
    | ind n ih =>
      refine ⟨?_, ?_, ?_⟩
      · intro l1 l2 l3 M h
        have h := h43 n l1 l2 l3 M h
        refine zr_iload_n (pc' := 44) (i := 3) dX12_best_43 rfl rfl rfl ?_
        refine zr_iconst (pc' := 45) dX12_best_44 rfl ?_
        refine zr_aload_n (pc' := 46) (i := 0) dX12_best_45 rfl rfl rfl ?_
        refine zr_get (pc' := 49) dX12_best_46 rfl ps_102 kd_102 fl_X12_420 kc_12 (gv_102_96 _) ?_
        refine zr_imul (pc' := 50) dX12_best_49 rfl ?_
        refine zr_icmp_ge (tgt := 93) (pc' := 53) dX12_best_50 rfl rfl h.1.1 h.1.2 (fun hc => ?_) (fun hc => ?_)
        · have h := h.2.1 hc
          refine zr_iconst (pc' := 94) dX12_best_93 rfl ?_
          refine zr_istore_n (pc' := 95) (i := 3) (al' := [(3, .inl 0), (0, .inr (.inr 102)), (1, .inl l1), (2, .inl l2)]) dX12_best_94 rfl rfl (by decide) rfl ?_
          obtain ⟨n', hn, h⟩ := h
          exact zn_al ((ih n' hn).2.1 _ _ _ _ h) ⟨rfl, rfl, rfl, rfl, trivial⟩
        · have h := h.2.2 hc
          refine zr_iload_n (pc' := 54) (i := 1) dX12_best_53 rfl rfl rfl ?_
          refine zr_if_le (tgt := 93) (pc' := 57) dX12_best_54 rfl rfl h.1 (fun hc => ?_) (fun hc => ?_)
          · have h := h.2.1 hc
            refine zr_iconst (pc' := 94) dX12_best_93 rfl ?_
            refine zr_istore_n (pc' := 95) (i := 3) (al' := [(3, .inl 0), (0, .inr (.inr 102)), (1, .inl l1), (2, .inl l2)]) dX12_best_94 rfl rfl (by decide) rfl ?_
            obtain ⟨n', hn, h⟩ := h
            exact zn_al ((ih n' hn).2.1 _ _ _ _ h) ⟨rfl, rfl, rfl, rfl, trivial⟩
          · have h := h.2.2 hc
            refine zr_aload_n (pc' := 58) (i := 0) dX12_best_57 rfl rfl rfl ?_
            refine zr_iload_n (pc' := 59) (i := 3) dX12_best_58 rfl rfl rfl ?_
            refine zn_callV (pc' := 62) (args := [.inl l3]) (st := []) (st' := fun r11 => [.inl r11]) dX12_best_59 rfl cv_X12_542 ⟨rfl, rfl, by decide, by decide⟩ rfl ps_102 kd_102 rfl rfl (Nat.le_of_ble_eq_true rfl) (fun _ => rfl) h ?_
            intro r11 M12 h
            refine zr_if_ne (tgt := 68) (pc' := 65) dX12_best_62 rfl rfl h.1 (fun hc => ?_) (fun hc => ?_)
            · have h := h.2.1 hc
              refine zr_aload_n (pc' := 69) (i := 0) dX12_best_68 rfl rfl rfl ?_
              refine zr_iload_n (pc' := 70) (i := 3) dX12_best_69 rfl rfl rfl ?_
              refine zr_iconst (pc' := 71) dX12_best_70 rfl ?_
              refine zn_callV (pc' := 74) (args := [.inl l3, .inl 1]) (st := []) (st' := fun _ => []) dX12_best_71 rfl cv_X12_545 ⟨rfl, rfl, by decide, by decide⟩ rfl ps_102 kd_102 rfl rfl (Nat.le_of_ble_eq_true rfl) (fun _ => rfl) h ?_
              intro r13 M14 h
              refine zr_aload_n (pc' := 75) (i := 0) dX12_best_74 rfl rfl rfl ?_
              refine zr_iconst (pc' := 76) dX12_best_75 rfl ?_
              refine zr_iload_n (pc' := 77) (i := 3) dX12_best_76 rfl rfl rfl ?_
              refine zr_iconst (pc' := 78) dX12_best_77 rfl ?_
              refine zn_callV (pc' := 81) (args := [.inl 1, .inl l3, .inl (-1)]) (st := []) (st' := fun _ => []) dX12_best_78 rfl cv_X12_539 ⟨rfl, rfl, by decide, by decide⟩ rfl ps_102 kd_102 rfl rfl (Nat.le_of_ble_eq_true rfl) (fun _ => rfl) h ?_
              intro r15 M16 h
              refine zr_aload_n (pc' := 82) (i := 0) dX12_best_81 rfl rfl rfl ?_
              refine zr_iload_n (pc' := 83) (i := 3) dX12_best_82 rfl rfl rfl ?_
              refine zr_iconst (pc' := 84) dX12_best_83 rfl ?_
              refine zn_callV (pc' := 87) (args := [.inl l3, .inl 0]) (st := []) (st' := fun _ => []) dX12_best_84 rfl cv_X12_545 ⟨rfl, rfl, by decide, by decide⟩ rfl ps_102 kd_102 rfl rfl (Nat.le_of_ble_eq_true rfl) (fun _ => rfl) h ?_
              intro r17 M18 h
              refine zr_iinc (pc' := 90) (al' := [(3, .inl (l3 + 1)), (0, .inr (.inr 102)), (1, .inl l1), (2, .inl l2)]) dX12_best_87 rfl rfl (by decide) rfl ?_
              refine zr_goto (pc' := 43) dX12_best_90 rfl ?_
              obtain ⟨n', hn, h⟩ := h
              exact zn_al ((ih n' hn).1 _ _ _ _ h) ⟨rfl, rfl, rfl, rfl, trivial⟩
            · have h := h.2.2 hc
              refine zr_goto (pc' := 87) dX12_best_65 rfl ?_
              refine zr_iinc (pc' := 90) (al' := [(3, .inl (l3 + 1)), (0, .inr (.inr 102)), (1, .inl l1), (2, .inl l2)]) dX12_best_87 rfl rfl (by decide) rfl ?_
              refine zr_goto (pc' := 43) dX12_best_90 rfl ?_
              obtain ⟨n', hn, h⟩ := h
              exact zn_al ((ih n' hn).1 _ _ _ _ h) ⟨rfl, rfl, rfl, rfl, trivial⟩
      · intro l1 l2 l3 M h
        have h := h95 n l1 l2 l3 M h
        refine zr_iload_n (pc' := 96) (i := 3) dX12_best_95 rfl rfl rfl ?_
        refine zr_iconst (pc' := 97) dX12_best_96 rfl ?_
        refine zr_aload_n (pc' := 98) (i := 0) dX12_best_97 rfl rfl rfl ?_
        refine zr_get (pc' := 101) dX12_best_98 rfl ps_102 kd_102 fl_X12_420 kc_12 (gv_102_96 _) ?_
        refine zr_imul (pc' := 102) dX12_best_101 rfl ?_
        refine zr_icmp_ge (tgt := 199) (pc' := 105) dX12_best_102 rfl rfl h.1.1 h.1.2 (fun hc => ?_) (fun hc => ?_)
        · have h := h.2.1 hc
          refine zr_iload_n (pc' := 200) (i := 2) dX12_best_199 rfl rfl rfl ?_
          refine zr_if_ne (tgt := 210) (pc' := 203) dX12_best_200 rfl rfl h.1 (fun hc => ?_) (fun hc => ?_)
          · have h := h.2.1 hc
            refine zr_iload_n (pc' := 211) (i := 2) dX12_best_210 rfl rfl rfl ?_
            refine zr_iconst (pc' := 212) dX12_best_211 rfl ?_
            refine zr_icmp_ne (tgt := 222) (pc' := 215) dX12_best_212 rfl rfl h.1 (zRd rfl) (fun hc => ?_) (fun hc => ?_)
            · have h := h.2.1 hc
              refine zr_iload_n (pc' := 223) (i := 2) dX12_best_222 rfl rfl rfl ?_
              refine zr_iconst (pc' := 224) dX12_best_223 rfl ?_
              refine zr_icmp_ne (tgt := 234) (pc' := 227) dX12_best_224 rfl rfl h.1 (zRd rfl) (fun hc => ?_) (fun hc => ?_)
              · have h := h.2.1 hc
                refine zr_iload_n (pc' := 235) (i := 2) dX12_best_234 rfl rfl rfl ?_
                refine zr_iconst (pc' := 236) dX12_best_235 rfl ?_
                refine zr_icmp_ne (tgt := 246) (pc' := 239) dX12_best_236 rfl rfl h.1 (zRd rfl) (fun hc => ?_) (fun hc => ?_)
                · have h := h.2.1 hc
                  refine zr_aload_n (pc' := 247) (i := 0) dX12_best_246 rfl rfl rfl ?_
                  refine zr_get (pc' := 250) dX12_best_247 rfl ps_102 kd_102 fl_X12_530 kc_12 (gv_102_104 _) ?_
                  exact zr_ireturn dX12_best_250 rfl rfl trivial (Nat.le_refl _) (Nat.le_refl _) (And.intro rfl h)
                · have h := h.2.2 hc
                  refine zr_aload_n (pc' := 240) (i := 0) dX12_best_239 rfl rfl rfl ?_
                  refine zr_get (pc' := 243) dX12_best_240 rfl ps_102 kd_102 fl_X12_527 kc_12 (gv_102_103 _) ?_
                  refine zr_goto (pc' := 250) dX12_best_243 rfl ?_
                  exact zr_ireturn dX12_best_250 rfl rfl trivial (Nat.le_refl _) (Nat.le_refl _) (And.intro rfl h)
              · have h := h.2.2 hc
                refine zr_aload_n (pc' := 228) (i := 0) dX12_best_227 rfl rfl rfl ?_
                refine zr_get (pc' := 231) dX12_best_228 rfl ps_102 kd_102 fl_X12_536 kc_12 (gv_102_102 _) ?_
                refine zr_goto (pc' := 250) dX12_best_231 rfl ?_
                exact zr_ireturn dX12_best_250 rfl rfl trivial (Nat.le_refl _) (Nat.le_refl _) (And.intro rfl h)
            · have h := h.2.2 hc
              refine zr_aload_n (pc' := 216) (i := 0) dX12_best_215 rfl rfl rfl ?_
              refine zr_get (pc' := 219) dX12_best_216 rfl ps_102 kd_102 fl_X12_533 kc_12 (gv_102_101 _) ?_
              refine zr_goto (pc' := 250) dX12_best_219 rfl ?_
              exact zr_ireturn dX12_best_250 rfl rfl trivial (Nat.le_refl _) (Nat.le_refl _) (And.intro rfl h)
          · have h := h.2.2 hc
            refine zr_aload_n (pc' := 204) (i := 0) dX12_best_203 rfl rfl rfl ?_
            refine zr_get (pc' := 207) dX12_best_204 rfl ps_102 kd_102 fl_X12_524 kc_12 (gv_102_100 _) ?_
            refine zr_goto (pc' := 250) dX12_best_207 rfl ?_
            exact zr_ireturn dX12_best_250 rfl rfl trivial (Nat.le_refl _) (Nat.le_refl _) (And.intro rfl h)
        · have h := h.2.2 hc
          refine zr_iload_n (pc' := 106) (i := 1) dX12_best_105 rfl rfl rfl ?_
          refine zr_iconst (pc' := 107) dX12_best_106 rfl ?_
          refine zr_icmp_le (tgt := 199) (pc' := 110) dX12_best_107 rfl rfl h.1 (zRd rfl) (fun hc => ?_) (fun hc => ?_)
          · have h := h.2.1 hc
            refine zr_iload_n (pc' := 200) (i := 2) dX12_best_199 rfl rfl rfl ?_
            refine zr_if_ne (tgt := 210) (pc' := 203) dX12_best_200 rfl rfl h.1 (fun hc => ?_) (fun hc => ?_)
            · have h := h.2.1 hc
              refine zr_iload_n (pc' := 211) (i := 2) dX12_best_210 rfl rfl rfl ?_
              refine zr_iconst (pc' := 212) dX12_best_211 rfl ?_
              refine zr_icmp_ne (tgt := 222) (pc' := 215) dX12_best_212 rfl rfl h.1 (zRd rfl) (fun hc => ?_) (fun hc => ?_)
              · have h := h.2.1 hc
                refine zr_iload_n (pc' := 223) (i := 2) dX12_best_222 rfl rfl rfl ?_
                refine zr_iconst (pc' := 224) dX12_best_223 rfl ?_
                refine zr_icmp_ne (tgt := 234) (pc' := 227) dX12_best_224 rfl rfl h.1 (zRd rfl) (fun hc => ?_) (fun hc => ?_)
                · have h := h.2.1 hc
                  refine zr_iload_n (pc' := 235) (i := 2) dX12_best_234 rfl rfl rfl ?_
                  refine zr_iconst (pc' := 236) dX12_best_235 rfl ?_
                  refine zr_icmp_ne (tgt := 246) (pc' := 239) dX12_best_236 rfl rfl h.1 (zRd rfl) (fun hc => ?_) (fun hc => ?_)
                  · have h := h.2.1 hc
                    refine zr_aload_n (pc' := 247) (i := 0) dX12_best_246 rfl rfl rfl ?_
                    refine zr_get (pc' := 250) dX12_best_247 rfl ps_102 kd_102 fl_X12_530 kc_12 (gv_102_104 _) ?_
                    exact zr_ireturn dX12_best_250 rfl rfl trivial (Nat.le_refl _) (Nat.le_refl _) (And.intro rfl h)
                  · have h := h.2.2 hc
                    refine zr_aload_n (pc' := 240) (i := 0) dX12_best_239 rfl rfl rfl ?_
                    refine zr_get (pc' := 243) dX12_best_240 rfl ps_102 kd_102 fl_X12_527 kc_12 (gv_102_103 _) ?_
                    refine zr_goto (pc' := 250) dX12_best_243 rfl ?_
                    exact zr_ireturn dX12_best_250 rfl rfl trivial (Nat.le_refl _) (Nat.le_refl _) (And.intro rfl h)
                · have h := h.2.2 hc
                  refine zr_aload_n (pc' := 228) (i := 0) dX12_best_227 rfl rfl rfl ?_
                  refine zr_get (pc' := 231) dX12_best_228 rfl ps_102 kd_102 fl_X12_536 kc_12 (gv_102_102 _) ?_
                  refine zr_goto (pc' := 250) dX12_best_231 rfl ?_
                  exact zr_ireturn dX12_best_250 rfl rfl trivial (Nat.le_refl _) (Nat.le_refl _) (And.intro rfl h)
              · have h := h.2.2 hc
                refine zr_aload_n (pc' := 216) (i := 0) dX12_best_215 rfl rfl rfl ?_
                refine zr_get (pc' := 219) dX12_best_216 rfl ps_102 kd_102 fl_X12_533 kc_12 (gv_102_101 _) ?_
                refine zr_goto (pc' := 250) dX12_best_219 rfl ?_
                exact zr_ireturn dX12_best_250 rfl rfl trivial (Nat.le_refl _) (Nat.le_refl _) (And.intro rfl h)
            · have h := h.2.2 hc
              refine zr_aload_n (pc' := 204) (i := 0) dX12_best_203 rfl rfl rfl ?_
              refine zr_get (pc' := 207) dX12_best_204 rfl ps_102 kd_102 fl_X12_524 kc_12 (gv_102_100 _) ?_
              refine zr_goto (pc' := 250) dX12_best_207 rfl ?_
              exact zr_ireturn dX12_best_250 rfl rfl trivial (Nat.le_refl _) (Nat.le_refl _) (And.intro rfl h)
          · have h := h.2.2 hc
            refine zr_aload_n (pc' := 111) (i := 0) dX12_best_110 rfl rfl rfl ?_
            refine zr_iload_n (pc' := 112) (i := 3) dX12_best_111 rfl rfl rfl ?_
            refine zn_callV (pc' := 115) (args := [.inl l3]) (st := []) (st' := fun r19 => [.inl r19]) dX12_best_112 rfl cv_X12_542 ⟨rfl, rfl, by decide, by decide⟩ rfl ps_102 kd_102 rfl rfl (Nat.le_of_ble_eq_true rfl) (fun _ => rfl) h ?_
            intro r19 M20 h
            refine zr_if_ne (tgt := 121) (pc' := 118) dX12_best_115 rfl rfl h.1 (fun hc => ?_) (fun hc => ?_)
            · have h := h.2.1 hc
              refine zr_aload_n (pc' := 122) (i := 0) dX12_best_121 rfl rfl rfl ?_
              refine zr_iload_n (pc' := 123) (i := 3) dX12_best_122 rfl rfl rfl ?_
              refine zr_iconst (pc' := 124) dX12_best_123 rfl ?_
              refine zn_callV (pc' := 127) (args := [.inl l3, .inl 1]) (st := []) (st' := fun _ => []) dX12_best_124 rfl cv_X12_545 ⟨rfl, rfl, by decide, by decide⟩ rfl ps_102 kd_102 rfl rfl (Nat.le_of_ble_eq_true rfl) (fun _ => rfl) h ?_
              intro r21 M22 h
              refine zr_iload_n (pc' := 128) (i := 3) dX12_best_127 rfl rfl rfl ?_
              refine zr_iconst (pc' := 129) dX12_best_128 rfl ?_
              refine zr_idiv (pc' := 130) dX12_best_129 rfl h.1 (zRd rfl) (by decide) ?_
              have h := h.2
              refine zr_iconst (pc' := 131) dX12_best_130 rfl ?_
              refine zr_imul (pc' := 132) dX12_best_131 rfl ?_
              refine zr_iconst (pc' := 133) dX12_best_132 rfl ?_
              refine zr_iadd (pc' := 134) dX12_best_133 rfl ?_
              refine zr_istore (pc' := 136) (al' := [(4, .inl (((Int.tdiv l3 2) * 2) + 2)), (0, .inr (.inr 102)), (1, .inl l1), (2, .inl l2), (3, .inl l3)]) dX12_best_134 rfl (by decide) rfl ?_
              obtain ⟨n', hn, h⟩ := h
              exact zn_al ((ih n' hn).2.2 _ _ _ _ _ h) ⟨rfl, rfl, rfl, rfl, rfl, trivial⟩
            · have h := h.2.2 hc
              refine zr_goto (pc' := 193) dX12_best_118 rfl ?_
              refine zr_iinc (pc' := 196) (al' := [(3, .inl (l3 + 1)), (0, .inr (.inr 102)), (1, .inl l1), (2, .inl l2)]) dX12_best_193 rfl rfl (by decide) rfl ?_
              refine zr_goto (pc' := 95) dX12_best_196 rfl ?_
              obtain ⟨n', hn, h⟩ := h
              exact zn_al ((ih n' hn).2.1 _ _ _ _ h) ⟨rfl, rfl, rfl, rfl, trivial⟩
      · intro l1 l2 l3 l4 M h
        have h := h136 n l1 l2 l3 l4 M h
        refine zr_iload (pc' := 138) dX12_best_136 rfl rfl ?_
        refine zr_iconst (pc' := 139) dX12_best_138 rfl ?_
        refine zr_aload_n (pc' := 140) (i := 0) dX12_best_139 rfl rfl rfl ?_
        refine zr_get (pc' := 143) dX12_best_140 rfl ps_102 kd_102 fl_X12_420 kc_12 (gv_102_96 _) ?_
        refine zr_imul (pc' := 144) dX12_best_143 rfl ?_
        refine zr_icmp_ge (tgt := 187) (pc' := 147) dX12_best_144 rfl rfl h.1.1 h.1.2 (fun hc => ?_) (fun hc => ?_)
        · have h := h.2.1 hc
          refine zr_aload_n (pc' := 188) (i := 0) dX12_best_187 rfl rfl rfl ?_
          refine zr_iload_n (pc' := 189) (i := 3) dX12_best_188 rfl rfl rfl ?_
          refine zr_iconst (pc' := 190) dX12_best_189 rfl ?_
          refine zn_callV (pc' := 193) (args := [.inl l3, .inl 0]) (st := []) (st' := fun _ => []) dX12_best_190 rfl cv_X12_545 ⟨rfl, rfl, by decide, by decide⟩ rfl ps_102 kd_102 rfl rfl (Nat.le_of_ble_eq_true rfl) (fun _ => rfl) h ?_
          intro r23 M24 h
          refine zr_iinc (pc' := 196) (al' := [(3, .inl (l3 + 1)), (0, .inr (.inr 102)), (1, .inl l1), (2, .inl l2), (4, .inl l4)]) dX12_best_193 rfl rfl (by decide) rfl ?_
          refine zr_goto (pc' := 95) dX12_best_196 rfl ?_
          obtain ⟨n', hn, h⟩ := h
          exact zn_al ((ih n' hn).2.1 _ _ _ _ h) ⟨rfl, rfl, rfl, rfl, trivial⟩
        · have h := h.2.2 hc
          refine zr_aload_n (pc' := 148) (i := 0) dX12_best_147 rfl rfl rfl ?_
          refine zr_iload (pc' := 150) dX12_best_148 rfl rfl ?_
          refine zn_callV (pc' := 153) (args := [.inl l4]) (st := []) (st' := fun r25 => [.inl r25]) dX12_best_150 rfl cv_X12_542 ⟨rfl, rfl, by decide, by decide⟩ rfl ps_102 kd_102 rfl rfl (Nat.le_of_ble_eq_true rfl) (fun _ => rfl) h ?_
          intro r25 M26 h
          refine zr_if_ne (tgt := 159) (pc' := 156) dX12_best_153 rfl rfl h.1 (fun hc => ?_) (fun hc => ?_)
          · have h := h.2.1 hc
            refine zr_aload_n (pc' := 160) (i := 0) dX12_best_159 rfl rfl rfl ?_
            refine zr_iload (pc' := 162) dX12_best_160 rfl rfl ?_
            refine zr_iconst (pc' := 163) dX12_best_162 rfl ?_
            refine zn_callV (pc' := 166) (args := [.inl l4, .inl 1]) (st := []) (st' := fun _ => []) dX12_best_163 rfl cv_X12_545 ⟨rfl, rfl, by decide, by decide⟩ rfl ps_102 kd_102 rfl rfl (Nat.le_of_ble_eq_true rfl) (fun _ => rfl) h ?_
            intro r27 M28 h
            refine zr_aload_n (pc' := 167) (i := 0) dX12_best_166 rfl rfl rfl ?_
            refine zr_iconst (pc' := 168) dX12_best_167 rfl ?_
            refine zr_iload_n (pc' := 169) (i := 3) dX12_best_168 rfl rfl rfl ?_
            refine zr_iload (pc' := 171) dX12_best_169 rfl rfl ?_
            refine zn_callV (pc' := 174) (args := [.inl 2, .inl l3, .inl l4]) (st := []) (st' := fun _ => []) dX12_best_171 rfl cv_X12_539 ⟨rfl, rfl, by decide, by decide⟩ rfl ps_102 kd_102 rfl rfl (Nat.le_of_ble_eq_true rfl) (fun _ => rfl) h ?_
            intro r29 M30 h
            refine zr_aload_n (pc' := 175) (i := 0) dX12_best_174 rfl rfl rfl ?_
            refine zr_iload (pc' := 177) dX12_best_175 rfl rfl ?_
            refine zr_iconst (pc' := 178) dX12_best_177 rfl ?_
            refine zn_callV (pc' := 181) (args := [.inl l4, .inl 0]) (st := []) (st' := fun _ => []) dX12_best_178 rfl cv_X12_545 ⟨rfl, rfl, by decide, by decide⟩ rfl ps_102 kd_102 rfl rfl (Nat.le_of_ble_eq_true rfl) (fun _ => rfl) h ?_
            intro r31 M32 h
            refine zr_iinc (pc' := 184) (al' := [(4, .inl (l4 + 1)), (0, .inr (.inr 102)), (1, .inl l1), (2, .inl l2), (3, .inl l3)]) dX12_best_181 rfl rfl (by decide) rfl ?_
            refine zr_goto (pc' := 136) dX12_best_184 rfl ?_
            obtain ⟨n', hn, h⟩ := h
            exact zn_al ((ih n' hn).2.2 _ _ _ _ _ h) ⟨rfl, rfl, rfl, rfl, rfl, trivial⟩
          · have h := h.2.2 hc
            refine zr_goto (pc' := 181) dX12_best_156 rfl ?_
            refine zr_iinc (pc' := 184) (al' := [(4, .inl (l4 + 1)), (0, .inr (.inr 102)), (1, .inl l1), (2, .inl l2), (3, .inl l3)]) dX12_best_181 rfl rfl (by decide) rfl ?_
            refine zr_goto (pc' := 136) dX12_best_184 rfl ?_
            obtain ⟨n', hn, h⟩ := h
            exact zn_al ((ih n' hn).2.2 _ _ _ _ _ h) ⟨rfl, rfl, rfl, rfl, rfl, trivial⟩
  refine zP_of (by decide +kernel) rfl (Nat.le_of_ble_eq_true rfl) ?_
  show zA E zNN (0, 0) mX12_best 0 [(0, .inr (.inr 102)), (1, .inl l1), (2, .inl l2)] [] M (zQ Q)
  refine zr_aload_n (pc' := 1) (i := 0) dX12_best_0 rfl rfl rfl ?_
  refine zr_iconst (pc' := 2) dX12_best_1 rfl ?_
  refine zr_put (pc' := 5) dX12_best_2 rfl ps_102 kd_102 fl_X12_208 kc_12 rfl nf_102_2 rfl trivial (fun M1 hM1 => ?_)
  have h := h M1 hM1
  refine zr_iload_n (pc' := 6) (i := 1) dX12_best_5 rfl rfl rfl ?_
  refine zr_iconst (pc' := 7) dX12_best_6 rfl ?_
  refine zr_iconst (pc' := 8) dX12_best_7 rfl ?_
  refine zn_callS (pc' := 11) (args := [.inl l1, .inl 0, .inl 2]) (st := []) (st' := fun r2 => [.inl r2]) dX12_best_8 rfl cs_X12_214 ⟨rfl, rfl, by decide, by decide⟩ rfl rfl rfl (Nat.le_of_ble_eq_true rfl) (fun _ => rfl) h ?_
  intro r2 M3 h
  refine zr_if_eq (tgt := 23) (pc' := 14) dX12_best_11 rfl rfl h.1 (fun hc => ?_) (fun hc => ?_)
  · have h := h.2.1 hc
    refine zr_iconst (pc' := 24) dX12_best_23 rfl ?_
    exact zr_ireturn dX12_best_24 rfl rfl trivial (Nat.le_refl _) (Nat.le_refl _) (And.intro rfl h)
  · have h := h.2.2 hc
    refine zr_iload_n (pc' := 15) (i := 2) dX12_best_14 rfl rfl rfl ?_
    refine zr_iconst (pc' := 16) dX12_best_15 rfl ?_
    refine zr_iconst (pc' := 17) dX12_best_16 rfl ?_
    refine zn_callS (pc' := 20) (args := [.inl l2, .inl 0, .inl 4]) (st := []) (st' := fun r4 => [.inl r4]) dX12_best_17 rfl cs_X12_214 ⟨rfl, rfl, by decide, by decide⟩ rfl rfl rfl (Nat.le_of_ble_eq_true rfl) (fun _ => rfl) h ?_
    intro r4 M5 h
    refine zr_if_ne (tgt := 25) (pc' := 23) dX12_best_20 rfl rfl h.1 (fun hc => ?_) (fun hc => ?_)
    · have h := h.2.1 hc
      refine zr_aload_n (pc' := 26) (i := 0) dX12_best_25 rfl rfl rfl ?_
      refine zn_callV (pc' := 29) (args := []) (st := []) (st' := fun _ => []) dX12_best_26 rfl cv_X12_455 ⟨rfl, rfl, by decide, by decide⟩ rfl ps_102 kd_102 rfl rfl (Nat.le_of_ble_eq_true rfl) (fun _ => rfl) h ?_
      intro r6 M7 h
      refine zr_aload_n (pc' := 30) (i := 0) dX12_best_29 rfl rfl rfl ?_
      refine zr_iconst (pc' := 31) dX12_best_30 rfl ?_
      refine zr_put (pc' := 34) dX12_best_31 rfl ps_102 kd_102 fl_X12_524 kc_12 rfl nf_102_100 rfl trivial (fun M8 hM1 => ?_)
      have h := h M8 hM1
      refine zr_aload_n (pc' := 35) (i := 0) dX12_best_34 rfl rfl rfl ?_
      refine zr_iconst (pc' := 36) dX12_best_35 rfl ?_
      refine zr_iconst (pc' := 37) dX12_best_36 rfl ?_
      refine zr_iconst (pc' := 38) dX12_best_37 rfl ?_
      refine zn_callV (pc' := 41) (args := [.inl 0, .inl (-1), .inl (-1)]) (st := []) (st' := fun _ => []) dX12_best_38 rfl cv_X12_539 ⟨rfl, rfl, by decide, by decide⟩ rfl ps_102 kd_102 rfl rfl (Nat.le_of_ble_eq_true rfl) (fun _ => rfl) h ?_
      intro r9 M10 h
      refine zr_iconst (pc' := 42) dX12_best_41 rfl ?_
      refine zr_istore_n (pc' := 43) (i := 3) (al' := [(3, .inl 0), (0, .inr (.inr 102)), (1, .inl l1), (2, .inl l2)]) dX12_best_42 rfl rfl (by decide) rfl ?_
      obtain ⟨n', h⟩ := h
      exact zn_al ((key n').1 _ _ _ _ h) ⟨rfl, rfl, rfl, rfl, trivial⟩
    · have h := h.2.2 hc
      refine zr_iconst (pc' := 24) dX12_best_23 rfl ?_
      exact zr_ireturn dX12_best_24 rfl rfl trivial (Nat.le_refl _) (Nat.le_refl _) (And.intro rfl h)
