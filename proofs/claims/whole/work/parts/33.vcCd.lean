set_option maxRecDepth 20000 in
theorem vcX8_part {E : zE} {M : zM} {Q : Int → zM → Prop} (l1 : Int)
    (h : (zR l1 ∧ ((l1 < 7 ∨ 11 < l1) → ((zR (M 26 1)) ∧ ((¬ (M 26 1) = 0 → (zR l1 ∧ ((l1 < 6 ∨ 9 < l1) → zR (M 26 8) ∧ Q (M 26 8) M) ∧ (l1 = 6 → zR (M 26 6) ∧ Q (M 26 6) M) ∧ (l1 = 7 → zR (M 26 8) ∧ Q (M 26 8) M) ∧ (l1 = 8 → zR (M 26 3) ∧ Q (M 26 3) M) ∧ (l1 = 9 → zR (M 26 4) ∧ Q (M 26 4) M))) ∧ ((M 26 1) = 0 → Q (-9223372036854775808) M)))) ∧ (l1 = 7 → zR (M 26 0) ∧ Q (M 26 0) M) ∧ (l1 = 8 → ((zR (M 26 1)) ∧ ((¬ (M 26 1) = 0 → (zR l1 ∧ ((l1 < 6 ∨ 9 < l1) → zR (M 26 8) ∧ Q (M 26 8) M) ∧ (l1 = 6 → zR (M 26 6) ∧ Q (M 26 6) M) ∧ (l1 = 7 → zR (M 26 8) ∧ Q (M 26 8) M) ∧ (l1 = 8 → zR (M 26 3) ∧ Q (M 26 3) M) ∧ (l1 = 9 → zR (M 26 4) ∧ Q (M 26 4) M))) ∧ ((M 26 1) = 0 → Q (-9223372036854775808) M)))) ∧ (l1 = 9 → ((zR (M 26 1)) ∧ ((¬ (M 26 1) = 0 → (zR l1 ∧ ((l1 < 6 ∨ 9 < l1) → zR (M 26 8) ∧ Q (M 26 8) M) ∧ (l1 = 6 → zR (M 26 6) ∧ Q (M 26 6) M) ∧ (l1 = 7 → zR (M 26 8) ∧ Q (M 26 8) M) ∧ (l1 = 8 → zR (M 26 3) ∧ Q (M 26 3) M) ∧ (l1 = 9 → zR (M 26 4) ∧ Q (M 26 4) M))) ∧ ((M 26 1) = 0 → Q (-9223372036854775808) M)))) ∧ (l1 = 10 → zR (M 26 1) ∧ Q (M 26 1) M) ∧ (l1 = 11 → zR (M 26 2) ∧ Q (M 26 2) M)))
    : zP E mX8_part [.inr (.inr 26), .inl l1] M Q := by
  refine zP_of (by decide +kernel) rfl (Nat.le_of_ble_eq_true rfl) ?_
  show zA E zNN (0, 0) mX8_part 0 [(0, .inr (.inr 26)), (1, .inl l1)] [] M (zQ Q)
  refine zr_iload_n (pc' := 1) (i := 1) dX8_part_0 rfl rfl rfl ?_
  by_cases hsw : l1 < 7 ∨ 11 < l1
  · refine zr_tableOut (tgt := 54) dX8_part_1 h.1 hsw rfl ?_
    have h := h.2.1 hsw
    refine zr_aload_n (pc' := 55) (i := 0) dX8_part_54 rfl rfl rfl ?_
    refine zr_get (pc' := 58) dX8_part_55 rfl ps_26 kd_26 fl_X8_13 kc_8 (gv_26_1 _) ?_
    refine zr_if_ne (tgt := 65) (pc' := 61) dX8_part_58 rfl rfl h.1 (fun hc => ?_) (fun hc => ?_)
    · have h := h.2.1 hc
      refine zr_iload_n (pc' := 66) (i := 1) dX8_part_65 rfl rfl rfl ?_
      by_cases hsw : l1 < 6 ∨ 9 < l1
      · refine zr_tableOut (tgt := 114) dX8_part_66 h.1 hsw rfl ?_
        have h := h.2.1 hsw
        refine zr_aload_n (pc' := 115) (i := 0) dX8_part_114 rfl rfl rfl ?_
        refine zr_get (pc' := 118) dX8_part_115 rfl ps_26 kd_26 fl_X8_36 kc_8 (gv_26_8 _) ?_
        refine zr_i2l (pc' := 119) dX8_part_118 rfl h.1 ?_
        have h := h.2
        exact zr_lreturn dX8_part_119 rfl (Nat.le_refl _) (Nat.le_refl _) (And.intro rfl h)
      · have hsx : l1 = 6 ∨ l1 = 7 ∨ l1 = 8 ∨ l1 = 9 := by omega
        rcases hsx with hsx | hsx | hsx | hsx
        · refine zr_tableIn (off := 42) (tgt := 108) dX8_part_66 h.1 (by omega) (by omega) (by rw [hsx]; rfl) rfl ?_
          have h := h.2.2.1 hsx
          refine zr_aload_n (pc' := 109) (i := 0) dX8_part_108 rfl rfl rfl ?_
          refine zr_get (pc' := 112) dX8_part_109 rfl ps_26 kd_26 fl_X8_30 kc_8 (gv_26_6 _) ?_
          refine zr_i2l (pc' := 113) dX8_part_112 rfl h.1 ?_
          have h := h.2
          exact zr_lreturn dX8_part_113 rfl (Nat.le_refl _) (Nat.le_refl _) (And.intro rfl h)
        · refine zr_tableIn (off := 48) (tgt := 114) dX8_part_66 h.1 (by omega) (by omega) (by rw [hsx]; rfl) rfl ?_
          have h := h.2.2.2.1 hsx
          refine zr_aload_n (pc' := 115) (i := 0) dX8_part_114 rfl rfl rfl ?_
          refine zr_get (pc' := 118) dX8_part_115 rfl ps_26 kd_26 fl_X8_36 kc_8 (gv_26_8 _) ?_
          refine zr_i2l (pc' := 119) dX8_part_118 rfl h.1 ?_
          have h := h.2
          exact zr_lreturn dX8_part_119 rfl (Nat.le_refl _) (Nat.le_refl _) (And.intro rfl h)
        · refine zr_tableIn (off := 30) (tgt := 96) dX8_part_66 h.1 (by omega) (by omega) (by rw [hsx]; rfl) rfl ?_
          have h := h.2.2.2.2.1 hsx
          refine zr_aload_n (pc' := 97) (i := 0) dX8_part_96 rfl rfl rfl ?_
          refine zr_get (pc' := 100) dX8_part_97 rfl ps_26 kd_26 fl_X8_21 kc_8 (gv_26_3 _) ?_
          refine zr_i2l (pc' := 101) dX8_part_100 rfl h.1 ?_
          have h := h.2
          exact zr_lreturn dX8_part_101 rfl (Nat.le_refl _) (Nat.le_refl _) (And.intro rfl h)
        · refine zr_tableIn (off := 36) (tgt := 102) dX8_part_66 h.1 (by omega) (by omega) (by rw [hsx]; rfl) rfl ?_
          have h := h.2.2.2.2.2 hsx
          refine zr_aload_n (pc' := 103) (i := 0) dX8_part_102 rfl rfl rfl ?_
          refine zr_get (pc' := 106) dX8_part_103 rfl ps_26 kd_26 fl_X8_24 kc_8 (gv_26_4 _) ?_
          refine zr_i2l (pc' := 107) dX8_part_106 rfl h.1 ?_
          have h := h.2
          exact zr_lreturn dX8_part_107 rfl (Nat.le_refl _) (Nat.le_refl _) (And.intro rfl h)
    · have h := h.2.2 hc
      refine zr_ldc2 (pc' := 64) (x := -9223372036854775808) dX8_part_61 rfl ci_X8_41 ?_
      exact zr_lreturn dX8_part_64 rfl (Nat.le_refl _) (Nat.le_refl _) (And.intro rfl h)
  · have hsx : l1 = 7 ∨ l1 = 8 ∨ l1 = 9 ∨ l1 = 10 ∨ l1 = 11 := by omega
    rcases hsx with hsx | hsx | hsx | hsx | hsx
    · refine zr_tableIn (off := 35) (tgt := 36) dX8_part_1 h.1 (by omega) (by omega) (by rw [hsx]; rfl) rfl ?_
      have h := h.2.2.1 hsx
      refine zr_aload_n (pc' := 37) (i := 0) dX8_part_36 rfl rfl rfl ?_
      refine zr_get (pc' := 40) dX8_part_37 rfl ps_26 kd_26 fl_X8_7 kc_8 (gv_26_0 _) ?_
      refine zr_i2l (pc' := 41) dX8_part_40 rfl h.1 ?_
      have h := h.2
      exact zr_lreturn dX8_part_41 rfl (Nat.le_refl _) (Nat.le_refl _) (And.intro rfl h)
    · refine zr_tableIn (off := 53) (tgt := 54) dX8_part_1 h.1 (by omega) (by omega) (by rw [hsx]; rfl) rfl ?_
      have h := h.2.2.2.1 hsx
      refine zr_aload_n (pc' := 55) (i := 0) dX8_part_54 rfl rfl rfl ?_
      refine zr_get (pc' := 58) dX8_part_55 rfl ps_26 kd_26 fl_X8_13 kc_8 (gv_26_1 _) ?_
      refine zr_if_ne (tgt := 65) (pc' := 61) dX8_part_58 rfl rfl h.1 (fun hc => ?_) (fun hc => ?_)
      · have h := h.2.1 hc
        refine zr_iload_n (pc' := 66) (i := 1) dX8_part_65 rfl rfl rfl ?_
        by_cases hsw : l1 < 6 ∨ 9 < l1
        · refine zr_tableOut (tgt := 114) dX8_part_66 h.1 hsw rfl ?_
          have h := h.2.1 hsw
          refine zr_aload_n (pc' := 115) (i := 0) dX8_part_114 rfl rfl rfl ?_
          refine zr_get (pc' := 118) dX8_part_115 rfl ps_26 kd_26 fl_X8_36 kc_8 (gv_26_8 _) ?_
          refine zr_i2l (pc' := 119) dX8_part_118 rfl h.1 ?_
          have h := h.2
          exact zr_lreturn dX8_part_119 rfl (Nat.le_refl _) (Nat.le_refl _) (And.intro rfl h)
        · have hsx : l1 = 6 ∨ l1 = 7 ∨ l1 = 8 ∨ l1 = 9 := by omega
          rcases hsx with hsx | hsx | hsx | hsx
          · refine zr_tableIn (off := 42) (tgt := 108) dX8_part_66 h.1 (by omega) (by omega) (by rw [hsx]; rfl) rfl ?_
            have h := h.2.2.1 hsx
            refine zr_aload_n (pc' := 109) (i := 0) dX8_part_108 rfl rfl rfl ?_
            refine zr_get (pc' := 112) dX8_part_109 rfl ps_26 kd_26 fl_X8_30 kc_8 (gv_26_6 _) ?_
            refine zr_i2l (pc' := 113) dX8_part_112 rfl h.1 ?_
            have h := h.2
            exact zr_lreturn dX8_part_113 rfl (Nat.le_refl _) (Nat.le_refl _) (And.intro rfl h)
          · refine zr_tableIn (off := 48) (tgt := 114) dX8_part_66 h.1 (by omega) (by omega) (by rw [hsx]; rfl) rfl ?_
            have h := h.2.2.2.1 hsx
            refine zr_aload_n (pc' := 115) (i := 0) dX8_part_114 rfl rfl rfl ?_
            refine zr_get (pc' := 118) dX8_part_115 rfl ps_26 kd_26 fl_X8_36 kc_8 (gv_26_8 _) ?_
            refine zr_i2l (pc' := 119) dX8_part_118 rfl h.1 ?_
            have h := h.2
            exact zr_lreturn dX8_part_119 rfl (Nat.le_refl _) (Nat.le_refl _) (And.intro rfl h)
          · refine zr_tableIn (off := 30) (tgt := 96) dX8_part_66 h.1 (by omega) (by omega) (by rw [hsx]; rfl) rfl ?_
            have h := h.2.2.2.2.1 hsx
            refine zr_aload_n (pc' := 97) (i := 0) dX8_part_96 rfl rfl rfl ?_
            refine zr_get (pc' := 100) dX8_part_97 rfl ps_26 kd_26 fl_X8_21 kc_8 (gv_26_3 _) ?_
            refine zr_i2l (pc' := 101) dX8_part_100 rfl h.1 ?_
            have h := h.2
            exact zr_lreturn dX8_part_101 rfl (Nat.le_refl _) (Nat.le_refl _) (And.intro rfl h)
          · refine zr_tableIn (off := 36) (tgt := 102) dX8_part_66 h.1 (by omega) (by omega) (by rw [hsx]; rfl) rfl ?_
            have h := h.2.2.2.2.2 hsx
            refine zr_aload_n (pc' := 103) (i := 0) dX8_part_102 rfl rfl rfl ?_
            refine zr_get (pc' := 106) dX8_part_103 rfl ps_26 kd_26 fl_X8_24 kc_8 (gv_26_4 _) ?_
            refine zr_i2l (pc' := 107) dX8_part_106 rfl h.1 ?_
            have h := h.2
            exact zr_lreturn dX8_part_107 rfl (Nat.le_refl _) (Nat.le_refl _) (And.intro rfl h)
      · have h := h.2.2 hc
        refine zr_ldc2 (pc' := 64) (x := -9223372036854775808) dX8_part_61 rfl ci_X8_41 ?_
        exact zr_lreturn dX8_part_64 rfl (Nat.le_refl _) (Nat.le_refl _) (And.intro rfl h)
    · refine zr_tableIn (off := 53) (tgt := 54) dX8_part_1 h.1 (by omega) (by omega) (by rw [hsx]; rfl) rfl ?_
      have h := h.2.2.2.2.1 hsx
      refine zr_aload_n (pc' := 55) (i := 0) dX8_part_54 rfl rfl rfl ?_
      refine zr_get (pc' := 58) dX8_part_55 rfl ps_26 kd_26 fl_X8_13 kc_8 (gv_26_1 _) ?_
      refine zr_if_ne (tgt := 65) (pc' := 61) dX8_part_58 rfl rfl h.1 (fun hc => ?_) (fun hc => ?_)
      · have h := h.2.1 hc
        refine zr_iload_n (pc' := 66) (i := 1) dX8_part_65 rfl rfl rfl ?_
        by_cases hsw : l1 < 6 ∨ 9 < l1
        · refine zr_tableOut (tgt := 114) dX8_part_66 h.1 hsw rfl ?_
          have h := h.2.1 hsw
          refine zr_aload_n (pc' := 115) (i := 0) dX8_part_114 rfl rfl rfl ?_
          refine zr_get (pc' := 118) dX8_part_115 rfl ps_26 kd_26 fl_X8_36 kc_8 (gv_26_8 _) ?_
          refine zr_i2l (pc' := 119) dX8_part_118 rfl h.1 ?_
          have h := h.2
          exact zr_lreturn dX8_part_119 rfl (Nat.le_refl _) (Nat.le_refl _) (And.intro rfl h)
        · have hsx : l1 = 6 ∨ l1 = 7 ∨ l1 = 8 ∨ l1 = 9 := by omega
          rcases hsx with hsx | hsx | hsx | hsx
          · refine zr_tableIn (off := 42) (tgt := 108) dX8_part_66 h.1 (by omega) (by omega) (by rw [hsx]; rfl) rfl ?_
            have h := h.2.2.1 hsx
            refine zr_aload_n (pc' := 109) (i := 0) dX8_part_108 rfl rfl rfl ?_
            refine zr_get (pc' := 112) dX8_part_109 rfl ps_26 kd_26 fl_X8_30 kc_8 (gv_26_6 _) ?_
            refine zr_i2l (pc' := 113) dX8_part_112 rfl h.1 ?_
            have h := h.2
            exact zr_lreturn dX8_part_113 rfl (Nat.le_refl _) (Nat.le_refl _) (And.intro rfl h)
          · refine zr_tableIn (off := 48) (tgt := 114) dX8_part_66 h.1 (by omega) (by omega) (by rw [hsx]; rfl) rfl ?_
            have h := h.2.2.2.1 hsx
            refine zr_aload_n (pc' := 115) (i := 0) dX8_part_114 rfl rfl rfl ?_
            refine zr_get (pc' := 118) dX8_part_115 rfl ps_26 kd_26 fl_X8_36 kc_8 (gv_26_8 _) ?_
            refine zr_i2l (pc' := 119) dX8_part_118 rfl h.1 ?_
            have h := h.2
            exact zr_lreturn dX8_part_119 rfl (Nat.le_refl _) (Nat.le_refl _) (And.intro rfl h)
          · refine zr_tableIn (off := 30) (tgt := 96) dX8_part_66 h.1 (by omega) (by omega) (by rw [hsx]; rfl) rfl ?_
            have h := h.2.2.2.2.1 hsx
            refine zr_aload_n (pc' := 97) (i := 0) dX8_part_96 rfl rfl rfl ?_
            refine zr_get (pc' := 100) dX8_part_97 rfl ps_26 kd_26 fl_X8_21 kc_8 (gv_26_3 _) ?_
            refine zr_i2l (pc' := 101) dX8_part_100 rfl h.1 ?_
            have h := h.2
            exact zr_lreturn dX8_part_101 rfl (Nat.le_refl _) (Nat.le_refl _) (And.intro rfl h)
          · refine zr_tableIn (off := 36) (tgt := 102) dX8_part_66 h.1 (by omega) (by omega) (by rw [hsx]; rfl) rfl ?_
            have h := h.2.2.2.2.2 hsx
            refine zr_aload_n (pc' := 103) (i := 0) dX8_part_102 rfl rfl rfl ?_
            refine zr_get (pc' := 106) dX8_part_103 rfl ps_26 kd_26 fl_X8_24 kc_8 (gv_26_4 _) ?_
            refine zr_i2l (pc' := 107) dX8_part_106 rfl h.1 ?_
            have h := h.2
            exact zr_lreturn dX8_part_107 rfl (Nat.le_refl _) (Nat.le_refl _) (And.intro rfl h)
      · have h := h.2.2 hc
        refine zr_ldc2 (pc' := 64) (x := -9223372036854775808) dX8_part_61 rfl ci_X8_41 ?_
        exact zr_lreturn dX8_part_64 rfl (Nat.le_refl _) (Nat.le_refl _) (And.intro rfl h)
    · refine zr_tableIn (off := 41) (tgt := 42) dX8_part_1 h.1 (by omega) (by omega) (by rw [hsx]; rfl) rfl ?_
      have h := h.2.2.2.2.2.1 hsx
      refine zr_aload_n (pc' := 43) (i := 0) dX8_part_42 rfl rfl rfl ?_
      refine zr_get (pc' := 46) dX8_part_43 rfl ps_26 kd_26 fl_X8_13 kc_8 (gv_26_1 _) ?_
      refine zr_i2l (pc' := 47) dX8_part_46 rfl h.1 ?_
      have h := h.2
      exact zr_lreturn dX8_part_47 rfl (Nat.le_refl _) (Nat.le_refl _) (And.intro rfl h)
    · refine zr_tableIn (off := 47) (tgt := 48) dX8_part_1 h.1 (by omega) (by omega) (by rw [hsx]; rfl) rfl ?_
      have h := h.2.2.2.2.2.2 hsx
      refine zr_aload_n (pc' := 49) (i := 0) dX8_part_48 rfl rfl rfl ?_
      refine zr_get (pc' := 52) dX8_part_49 rfl ps_26 kd_26 fl_X8_16 kc_8 (gv_26_2 _) ?_
      refine zr_i2l (pc' := 53) dX8_part_52 rfl h.1 ?_
      have h := h.2
      exact zr_lreturn dX8_part_53 rfl (Nat.le_refl _) (Nat.le_refl _) (And.intro rfl h)
set_option maxRecDepth 20000 in
theorem vcX9_hasSpace {E : zE} {M : zM} {Q : Int → zM → Prop} (l1 : Int)
    (h : ((zR ((M 2 1) + l1)) ∧ ((500 < ((M 2 1) + l1) → Q 0 M) ∧ (((M 2 1) + l1) ≤ 500 → Q 1 M))))
    : zP E mX9_hasSpace [.inr (.inr 2), .inl l1] M Q := by
  refine zP_of (by decide +kernel) rfl (Nat.le_of_ble_eq_true rfl) ?_
  show zA E zNN (0, 0) mX9_hasSpace 0 [(0, .inr (.inr 2)), (1, .inl l1)] [] M (zQ Q)
  refine zr_aload_n (pc' := 1) (i := 0) dX9_hasSpace_0 rfl rfl rfl ?_
  refine zr_get (pc' := 4) dX9_hasSpace_1 rfl ps_2 kd_2 fl_X9_13 kc_9 (gv_2_1 _) ?_
  refine zr_iload_n (pc' := 5) (i := 1) dX9_hasSpace_4 rfl rfl rfl ?_
  refine zr_iadd (pc' := 6) dX9_hasSpace_5 rfl ?_
  refine zr_sipush (pc' := 9) dX9_hasSpace_6 rfl rfl ?_
  refine zr_icmp_gt (tgt := 16) (pc' := 12) dX9_hasSpace_9 rfl rfl h.1 (zRd rfl) (fun hc => ?_) (fun hc => ?_)
  · have h := h.2.1 hc
    refine zr_iconst (pc' := 17) dX9_hasSpace_16 rfl ?_
    exact zr_ireturn dX9_hasSpace_17 rfl rfl (Or.inl rfl) (Nat.le_refl _) (Nat.le_refl _) (And.intro rfl h)
  · have h := h.2.2 hc
    refine zr_iconst (pc' := 13) dX9_hasSpace_12 rfl ?_
    refine zr_goto (pc' := 17) dX9_hasSpace_13 rfl ?_
    exact zr_ireturn dX9_hasSpace_17 rfl rfl (Or.inr rfl) (Nat.le_refl _) (Nat.le_refl _) (And.intro rfl h)
set_option maxRecDepth 20000 in
theorem vcX9_append {E : zE} {M : zM} {Q : Int → zM → Prop} (l1 : Int) (I3 : Nat → Int → Int → zM → Prop)
    (h : ∃ n', I3 n' l1 24 M)
    (h3 : ∀ (n : Nat) (l1 l2 : Int) (M : zM), I3 n l1 l2 M → ((zR l2) ∧ ((l2 < 0 → Q 0 M) ∧ (0 ≤ l2 → ((zR (M 2 1)) ∧ ((500 ≤ (M 2 1) → Q 0 M) ∧ ((M 2 1) < 500 → (0 ≤ M 2 1 ∧ M 2 1 < 500) ∧ (∀ M1, M1 = zup M 3 ((M 2 1).toNat) (zand (zushr l1 l2) 255) → (∀ M2, M2 = zup M1 2 1 ((M1 2 1) + 1) → ∃ n', n' < n ∧ I3 n' l1 (l2 + -8) M2)))))))))
    : zP E mX9_append [.inr (.inr 2), .inl l1] M Q := by
  have key : ∀ n : Nat, (∀ (l1 l2 : Int) (M : zM), I3 n l1 l2 M → zA E zNN (0, 0) mX9_append 3 [(0, .inr (.inr 2)), (1, .inl l1), (2, .inl l2)] [] M (zQ Q)) := by
    intro n
    induction n using Nat.strongRecOn with
    | ind n ih =>
      intro l1 l2 M h
      have h := h3 n l1 l2 M h
      refine zr_iload_n (pc' := 4) (i := 2) dX9_append_3 rfl rfl rfl ?_
      refine zr_if_lt (tgt := 49) (pc' := 7) dX9_append_4 rfl rfl h.1 (fun hc => ?_) (fun hc => ?_)
      · have h := h.2.1 hc
        exact zr_return (x := 0) dX9_append_49 rfl (Nat.le_refl _) (Nat.le_refl _) (And.intro rfl h)
      · have h := h.2.2 hc
        refine zr_aload_n (pc' := 8) (i := 0) dX9_append_7 rfl rfl rfl ?_
        refine zr_get (pc' := 11) dX9_append_8 rfl ps_2 kd_2 fl_X9_13 kc_9 (gv_2_1 _) ?_
        refine zr_sipush (pc' := 14) dX9_append_11 rfl rfl ?_
        refine zr_icmp_ge (tgt := 49) (pc' := 17) dX9_append_14 rfl rfl h.1 (zRd rfl) (fun hc => ?_) (fun hc => ?_)
        · have h := h.2.1 hc
          exact zr_return (x := 0) dX9_append_49 rfl (Nat.le_refl _) (Nat.le_refl _) (And.intro rfl h)
        · have h := h.2.2 hc
          refine zr_aload_n (pc' := 18) (i := 0) dX9_append_17 rfl rfl rfl ?_
          refine zr_get (pc' := 21) dX9_append_18 rfl ps_2 kd_2 fl_X9_9 kc_9 (gv_2_0 _) ?_
          refine zr_aload_n (pc' := 22) (i := 0) dX9_append_21 rfl rfl rfl ?_
          refine zr_get (pc' := 25) dX9_append_22 rfl ps_2 kd_2 fl_X9_13 kc_9 (gv_2_1 _) ?_
          refine zr_iload_n (pc' := 26) (i := 1) dX9_append_25 rfl rfl rfl ?_
          refine zr_iload_n (pc' := 27) (i := 2) dX9_append_26 rfl rfl rfl ?_
          refine zr_iushr (pc' := 28) dX9_append_27 rfl ?_
          refine zr_sipush (pc' := 31) dX9_append_28 rfl rfl ?_
          refine zr_iand (pc' := 32) dX9_append_31 rfl ?_
          refine zr_iast (pc' := 33) dX9_append_32 rfl ps_3 kd_3 (by decide) h.1.1 h.1.2 (fun M1 hM1 => ?_)
          have h := h.2 M1 hM1
          refine zr_aload_n (pc' := 34) (i := 0) dX9_append_33 rfl rfl rfl ?_
          refine zr_dup (pc' := 35) dX9_append_34 rfl rfl ?_
          refine zr_get (pc' := 38) dX9_append_35 rfl ps_2 kd_2 fl_X9_13 kc_9 (gv_2_1 _) ?_
          refine zr_iconst (pc' := 39) dX9_append_38 rfl ?_
          refine zr_iadd (pc' := 40) dX9_append_39 rfl ?_
          refine zr_put (pc' := 43) dX9_append_40 rfl ps_2 kd_2 fl_X9_13 kc_9 rfl nf_2_1 rfl trivial (fun M2 hM1 => ?_)
          have h := h M2 hM1
          refine zr_iinc (pc' := 46) (al' := [(2, .inl (l2 + -8)), (0, .inr (.inr 2)), (1, .inl l1)]) dX9_append_43 rfl rfl (by decide) rfl ?_
          refine zr_goto (pc' := 3) dX9_append_46 rfl ?_
          obtain ⟨n', hn, h⟩ := h
          exact zn_al ((ih n' hn) _ _ _ h) ⟨rfl, rfl, rfl, trivial⟩
  refine zP_of (by decide +kernel) rfl (Nat.le_of_ble_eq_true rfl) ?_
  show zA E zNN (0, 0) mX9_append 0 [(0, .inr (.inr 2)), (1, .inl l1)] [] M (zQ Q)
  refine zr_bipush (pc' := 2) dX9_append_0 rfl rfl ?_
  refine zr_istore_n (pc' := 3) (i := 2) (al' := [(2, .inl 24), (0, .inr (.inr 2)), (1, .inl l1)]) dX9_append_2 rfl rfl (by decide) rfl ?_
  obtain ⟨n', h⟩ := h
  exact zn_al ((key n') _ _ _ h) ⟨rfl, rfl, rfl, trivial⟩
set_option maxRecDepth 20000 in
theorem vcX9_startText {E : zE} {M : zM} {Q : Int → zM → Prop} (l1 : Int)
    (h : (zR l1 ∧ zR (M 2 1)) ∧ (zR (if (M 2 1) < l1 then (M 2 1) else l1)) ∧ (∀ M1, M1 = zup M 2 2 (if 0 < (if (M 2 1) < l1 then (M 2 1) else l1) then (if (M 2 1) < l1 then (M 2 1) else l1) else 0) → (∀ M2, M2 = zup M1 2 1 0 → (∀ M3, M3 = zup M2 2 3 0 → Q 0 M3))))
    : zP E mX9_startText [.inr (.inr 2), .inl l1] M Q := by
  refine zP_of (by decide +kernel) rfl (Nat.le_of_ble_eq_true rfl) ?_
  show zA E zNN (0, 0) mX9_startText 0 [(0, .inr (.inr 2)), (1, .inl l1)] [] M (zQ Q)
  refine zr_aload_n (pc' := 1) (i := 0) dX9_startText_0 rfl rfl rfl ?_
  refine zr_iconst (pc' := 2) dX9_startText_1 rfl ?_
  refine zr_iload_n (pc' := 3) (i := 1) dX9_startText_2 rfl rfl rfl ?_
  refine zr_aload_n (pc' := 4) (i := 0) dX9_startText_3 rfl rfl rfl ?_
  refine zr_get (pc' := 7) dX9_startText_4 rfl ps_2 kd_2 fl_X9_13 kc_9 (gv_2_1 _) ?_
  refine zr_min (pc' := 10) dX9_startText_7 rfl ml_X9_17.1 ml_X9_17.2.1 ml_X9_17.2.2.1 ml_X9_17.2.2.2 (by decide) (Nat.le_of_ble_eq_true rfl) (Nat.zero_le _) (Nat.zero_le _) h.1.1 h.1.2 ?_
  have h := h.2
  refine zr_max (pc' := 13) dX9_startText_10 rfl ml_X9_23.1 ml_X9_23.2.1 ml_X9_23.2.2.1 ml_X9_23.2.2.2 (by decide) (Nat.le_of_ble_eq_true rfl) (Nat.zero_le _) (Nat.zero_le _) (zRd rfl) h.1 ?_
  have h := h.2
  refine zr_put (pc' := 16) dX9_startText_13 rfl ps_2 kd_2 fl_X9_26 kc_9 rfl nf_2_2 rfl trivial (fun M1 hM1 => ?_)
  have h := h M1 hM1
  refine zr_aload_n (pc' := 17) (i := 0) dX9_startText_16 rfl rfl rfl ?_
  refine zr_iconst (pc' := 18) dX9_startText_17 rfl ?_
  refine zr_put (pc' := 21) dX9_startText_18 rfl ps_2 kd_2 fl_X9_13 kc_9 rfl nf_2_1 rfl trivial (fun M2 hM1 => ?_)
  have h := h M2 hM1
  refine zr_aload_n (pc' := 22) (i := 0) dX9_startText_21 rfl rfl rfl ?_
  refine zr_iconst (pc' := 23) dX9_startText_22 rfl ?_
  refine zr_put (pc' := 26) dX9_startText_23 rfl ps_2 kd_2 fl_X9_29 kc_9 rfl nf_2_3 rfl trivial (fun M3 hM1 => ?_)
  have h := h M3 hM1
  exact zr_return (x := 0) dX9_startText_26 rfl (Nat.le_refl _) (Nat.le_refl _) (And.intro rfl h)
set_option maxRecDepth 20000 in
theorem vcX9_next {E : zE} {M : zM} {Q : Int → zM → Prop} (I0 : Nat → zM → Prop)
    (h : ((zR (M 2 3) ∧ zR (M 2 2)) ∧ (((M 2 2) ≤ (M 2 3) → (∀ M1, M1 = zup M 2 5 (M 2 3) → ((zR (M1 2 3) ∧ zR (M1 2 2)) ∧ (((M1 2 3) < (M1 2 2) → (0 ≤ M1 2 3 ∧ M1 2 3 < 500) ∧ (zP E mX9_isLetter [.inl (M1 3 ((M1 2 3).toNat))] M1 (fun r2 M3 => ((zR r2) ∧ ((r2 = 0 → (0 ≤ M3 2 3 ∧ M3 2 3 < 500) ∧ (zP E mX9_isDigit [.inl (M3 3 ((M3 2 3).toNat))] M3 (fun r4 M5 => ((zR r4) ∧ ((r4 = 0 → (zP E mX9_readSign [.inr (.inr 2)] M5 (fun r6 M7 => Q 0 M7))) ∧ (¬ r4 = 0 → (zP E mX9_readNumber [.inr (.inr 2)] M5 (fun r8 M9 => Q 0 M9)))))))) ∧ (¬ r2 = 0 → (zP E mX9_readWord [.inr (.inr 2)] M3 (fun r10 M11 => Q 0 M11)))))))) ∧ ((M1 2 2) ≤ (M1 2 3) → (∀ M12, M12 = zup M1 2 4 32 → Q 0 M12)))))) ∧ ((M 2 3) < (M 2 2) → (0 ≤ M 2 3 ∧ M 2 3 < 500) ∧ ((zR (M 3 ((M 2 3).toNat))) ∧ (((M 3 ((M 2 3).toNat)) = 10 → (∀ M13, M13 = zup M 2 3 ((M 2 3) + 1) → ∃ n', I0 n'  M13)) ∧ (¬ (M 3 ((M 2 3).toNat)) = 10 → (0 ≤ M 2 3 ∧ M 2 3 < 500) ∧ ((zR (M 3 ((M 2 3).toNat))) ∧ ((¬ (M 3 ((M 2 3).toNat)) = 32 → (∀ M14, M14 = zup M 2 5 (M 2 3) → ((zR (M14 2 3) ∧ zR (M14 2 2)) ∧ (((M14 2 3) < (M14 2 2) → (0 ≤ M14 2 3 ∧ M14 2 3 < 500) ∧ (zP E mX9_isLetter [.inl (M14 3 ((M14 2 3).toNat))] M14 (fun r15 M16 => ((zR r15) ∧ ((r15 = 0 → (0 ≤ M16 2 3 ∧ M16 2 3 < 500) ∧ (zP E mX9_isDigit [.inl (M16 3 ((M16 2 3).toNat))] M16 (fun r17 M18 => ((zR r17) ∧ ((r17 = 0 → (zP E mX9_readSign [.inr (.inr 2)] M18 (fun r19 M20 => Q 0 M20))) ∧ (¬ r17 = 0 → (zP E mX9_readNumber [.inr (.inr 2)] M18 (fun r21 M22 => Q 0 M22)))))))) ∧ (¬ r15 = 0 → (zP E mX9_readWord [.inr (.inr 2)] M16 (fun r23 M24 => Q 0 M24)))))))) ∧ ((M14 2 2) ≤ (M14 2 3) → (∀ M25, M25 = zup M14 2 4 32 → Q 0 M25)))))) ∧ ((M 3 ((M 2 3).toNat)) = 32 → (∀ M26, M26 = zup M 2 3 ((M 2 3) + 1) → ∃ n', I0 n'  M26)))))))))))
    (h0 : ∀ (n : Nat) (M : zM), I0 n  M → ((zR (M 2 3) ∧ zR (M 2 2)) ∧ (((M 2 2) ≤ (M 2 3) → (∀ M27, M27 = zup M 2 5 (M 2 3) → ((zR (M27 2 3) ∧ zR (M27 2 2)) ∧ (((M27 2 3) < (M27 2 2) → (0 ≤ M27 2 3 ∧ M27 2 3 < 500) ∧ (zP E mX9_isLetter [.inl (M27 3 ((M27 2 3).toNat))] M27 (fun r28 M29 => ((zR r28) ∧ ((r28 = 0 → (0 ≤ M29 2 3 ∧ M29 2 3 < 500) ∧ (zP E mX9_isDigit [.inl (M29 3 ((M29 2 3).toNat))] M29 (fun r30 M31 => ((zR r30) ∧ ((r30 = 0 → (zP E mX9_readSign [.inr (.inr 2)] M31 (fun r32 M33 => Q 0 M33))) ∧ (¬ r30 = 0 → (zP E mX9_readNumber [.inr (.inr 2)] M31 (fun r34 M35 => Q 0 M35)))))))) ∧ (¬ r28 = 0 → (zP E mX9_readWord [.inr (.inr 2)] M29 (fun r36 M37 => Q 0 M37)))))))) ∧ ((M27 2 2) ≤ (M27 2 3) → (∀ M38, M38 = zup M27 2 4 32 → Q 0 M38)))))) ∧ ((M 2 3) < (M 2 2) → (0 ≤ M 2 3 ∧ M 2 3 < 500) ∧ ((zR (M 3 ((M 2 3).toNat))) ∧ (((M 3 ((M 2 3).toNat)) = 10 → (∀ M39, M39 = zup M 2 3 ((M 2 3) + 1) → ∃ n', n' < n ∧ I0 n'  M39)) ∧ (¬ (M 3 ((M 2 3).toNat)) = 10 → (0 ≤ M 2 3 ∧ M 2 3 < 500) ∧ ((zR (M 3 ((M 2 3).toNat))) ∧ ((¬ (M 3 ((M 2 3).toNat)) = 32 → (∀ M40, M40 = zup M 2 5 (M 2 3) → ((zR (M40 2 3) ∧ zR (M40 2 2)) ∧ (((M40 2 3) < (M40 2 2) → (0 ≤ M40 2 3 ∧ M40 2 3 < 500) ∧ (zP E mX9_isLetter [.inl (M40 3 ((M40 2 3).toNat))] M40 (fun r41 M42 => ((zR r41) ∧ ((r41 = 0 → (0 ≤ M42 2 3 ∧ M42 2 3 < 500) ∧ (zP E mX9_isDigit [.inl (M42 3 ((M42 2 3).toNat))] M42 (fun r43 M44 => ((zR r43) ∧ ((r43 = 0 → (zP E mX9_readSign [.inr (.inr 2)] M44 (fun r45 M46 => Q 0 M46))) ∧ (¬ r43 = 0 → (zP E mX9_readNumber [.inr (.inr 2)] M44 (fun r47 M48 => Q 0 M48)))))))) ∧ (¬ r41 = 0 → (zP E mX9_readWord [.inr (.inr 2)] M42 (fun r49 M50 => Q 0 M50)))))))) ∧ ((M40 2 2) ≤ (M40 2 3) → (∀ M51, M51 = zup M40 2 4 32 → Q 0 M51)))))) ∧ ((M 3 ((M 2 3).toNat)) = 32 → (∀ M52, M52 = zup M 2 3 ((M 2 3) + 1) → ∃ n', n' < n ∧ I0 n'  M52)))))))))))
    : zP E mX9_next [.inr (.inr 2)] M Q := by
  have key : ∀ n : Nat, (∀ (M : zM), I0 n  M → zA E zNN (0, 0) mX9_next 0 [(0, .inr (.inr 2))] [] M (zQ Q)) := by
    intro n
    induction n using Nat.strongRecOn with
    | ind n ih =>
      intro  M h
      have h := h0 n  M h
      refine zr_aload_n (pc' := 1) (i := 0) dX9_next_0 rfl rfl rfl ?_
      refine zr_get (pc' := 4) dX9_next_1 rfl ps_2 kd_2 fl_X9_29 kc_9 (gv_2_3 _) ?_
      refine zr_aload_n (pc' := 5) (i := 0) dX9_next_4 rfl rfl rfl ?_
      refine zr_get (pc' := 8) dX9_next_5 rfl ps_2 kd_2 fl_X9_26 kc_9 (gv_2_2 _) ?_
      refine zr_icmp_ge (tgt := 52) (pc' := 11) dX9_next_8 rfl rfl h.1.1 h.1.2 (fun hc => ?_) (fun hc => ?_)
      · have h := h.2.1 hc
        refine zr_aload_n (pc' := 53) (i := 0) dX9_next_52 rfl rfl rfl ?_
        refine zr_aload_n (pc' := 54) (i := 0) dX9_next_53 rfl rfl rfl ?_
        refine zr_get (pc' := 57) dX9_next_54 rfl ps_2 kd_2 fl_X9_29 kc_9 (gv_2_3 _) ?_
        refine zr_put (pc' := 60) dX9_next_57 rfl ps_2 kd_2 fl_X9_32 kc_9 rfl nf_2_5 rfl trivial (fun M27 hM1 => ?_)
        have h := h M27 hM1
        refine zr_aload_n (pc' := 61) (i := 0) dX9_next_60 rfl rfl rfl ?_
        refine zr_get (pc' := 64) dX9_next_61 rfl ps_2 kd_2 fl_X9_29 kc_9 (gv_2_3 _) ?_
        refine zr_aload_n (pc' := 65) (i := 0) dX9_next_64 rfl rfl rfl ?_
        refine zr_get (pc' := 68) dX9_next_65 rfl ps_2 kd_2 fl_X9_26 kc_9 (gv_2_2 _) ?_
        refine zr_icmp_lt (tgt := 80) (pc' := 71) dX9_next_68 rfl rfl h.1.1 h.1.2 (fun hc => ?_) (fun hc => ?_)
        · have h := h.2.1 hc
          refine zr_aload_n (pc' := 81) (i := 0) dX9_next_80 rfl rfl rfl ?_
          refine zr_get (pc' := 84) dX9_next_81 rfl ps_2 kd_2 fl_X9_9 kc_9 (gv_2_0 _) ?_
          refine zr_aload_n (pc' := 85) (i := 0) dX9_next_84 rfl rfl rfl ?_
          refine zr_get (pc' := 88) dX9_next_85 rfl ps_2 kd_2 fl_X9_29 kc_9 (gv_2_3 _) ?_
          refine zr_iald (pc' := 89) dX9_next_88 rfl ps_3 kd_3 (by decide) h.1.1 h.1.2 ?_
          have h := h.2
          refine zn_callS (pc' := 92) (args := [.inl (M27 3 ((M27 2 3).toNat))]) (st := []) (st' := fun r28 => [.inl r28]) dX9_next_89 rfl cs_X9_38 ⟨rfl, rfl, by decide, by decide⟩ rfl rfl rfl (Nat.le_of_ble_eq_true rfl) (fun _ => rfl) h ?_
          intro r28 M29 h
          refine zr_if_eq (tgt := 102) (pc' := 95) dX9_next_92 rfl rfl h.1 (fun hc => ?_) (fun hc => ?_)
          · have h := h.2.1 hc
            refine zr_aload_n (pc' := 103) (i := 0) dX9_next_102 rfl rfl rfl ?_
            refine zr_get (pc' := 106) dX9_next_103 rfl ps_2 kd_2 fl_X9_9 kc_9 (gv_2_0 _) ?_
            refine zr_aload_n (pc' := 107) (i := 0) dX9_next_106 rfl rfl rfl ?_
            refine zr_get (pc' := 110) dX9_next_107 rfl ps_2 kd_2 fl_X9_29 kc_9 (gv_2_3 _) ?_
            refine zr_iald (pc' := 111) dX9_next_110 rfl ps_3 kd_3 (by decide) h.1.1 h.1.2 ?_
            have h := h.2
            refine zn_callS (pc' := 114) (args := [.inl (M29 3 ((M29 2 3).toNat))]) (st := []) (st' := fun r30 => [.inl r30]) dX9_next_111 rfl cs_X9_45 ⟨rfl, rfl, by decide, by decide⟩ rfl rfl rfl (Nat.le_of_ble_eq_true rfl) (fun _ => rfl) h ?_
            intro r30 M31 h
            refine zr_if_eq (tgt := 124) (pc' := 117) dX9_next_114 rfl rfl h.1 (fun hc => ?_) (fun hc => ?_)
            · have h := h.2.1 hc
              refine zr_aload_n (pc' := 125) (i := 0) dX9_next_124 rfl rfl rfl ?_
              refine zn_callV (pc' := 128) (args := []) (st := []) (st' := fun _ => []) dX9_next_125 rfl cv_X9_51 ⟨rfl, rfl, by decide, by decide⟩ rfl ps_2 kd_2 rfl rfl (Nat.le_of_ble_eq_true rfl) (fun _ => rfl) h ?_
              intro r32 M33 h
              exact zr_return (x := 0) dX9_next_128 rfl (Nat.le_refl _) (Nat.le_refl _) (And.intro rfl h)
            · have h := h.2.2 hc
              refine zr_aload_n (pc' := 118) (i := 0) dX9_next_117 rfl rfl rfl ?_
              refine zn_callV (pc' := 121) (args := []) (st := []) (st' := fun _ => []) dX9_next_118 rfl cv_X9_48 ⟨rfl, rfl, by decide, by decide⟩ rfl ps_2 kd_2 rfl rfl (Nat.le_of_ble_eq_true rfl) (fun _ => rfl) h ?_
              intro r34 M35 h
              refine zr_goto (pc' := 128) dX9_next_121 rfl ?_
              exact zr_return (x := 0) dX9_next_128 rfl (Nat.le_refl _) (Nat.le_refl _) (And.intro rfl h)
          · have h := h.2.2 hc
            refine zr_aload_n (pc' := 96) (i := 0) dX9_next_95 rfl rfl rfl ?_
            refine zn_callV (pc' := 99) (args := []) (st := []) (st' := fun _ => []) dX9_next_96 rfl cv_X9_42 ⟨rfl, rfl, by decide, by decide⟩ rfl ps_2 kd_2 rfl rfl (Nat.le_of_ble_eq_true rfl) (fun _ => rfl) h ?_
            intro r36 M37 h
            refine zr_goto (pc' := 128) dX9_next_99 rfl ?_
            exact zr_return (x := 0) dX9_next_128 rfl (Nat.le_refl _) (Nat.le_refl _) (And.intro rfl h)
        · have h := h.2.2 hc
          refine zr_aload_n (pc' := 72) (i := 0) dX9_next_71 rfl rfl rfl ?_
          refine zr_bipush (pc' := 74) dX9_next_72 rfl rfl ?_
          refine zr_put (pc' := 77) dX9_next_74 rfl ps_2 kd_2 fl_X9_35 kc_9 rfl nf_2_4 rfl trivial (fun M38 hM1 => ?_)
          have h := h M38 hM1
          refine zr_goto (pc' := 128) dX9_next_77 rfl ?_
          exact zr_return (x := 0) dX9_next_128 rfl (Nat.le_refl _) (Nat.le_refl _) (And.intro rfl h)
      · have h := h.2.2 hc
        refine zr_aload_n (pc' := 12) (i := 0) dX9_next_11 rfl rfl rfl ?_
        refine zr_get (pc' := 15) dX9_next_12 rfl ps_2 kd_2 fl_X9_9 kc_9 (gv_2_0 _) ?_
        refine zr_aload_n (pc' := 16) (i := 0) dX9_next_15 rfl rfl rfl ?_
        refine zr_get (pc' := 19) dX9_next_16 rfl ps_2 kd_2 fl_X9_29 kc_9 (gv_2_3 _) ?_
        refine zr_iald (pc' := 20) dX9_next_19 rfl ps_3 kd_3 (by decide) h.1.1 h.1.2 ?_
        have h := h.2
        refine zr_bipush (pc' := 22) dX9_next_20 rfl rfl ?_
        refine zr_icmp_eq (tgt := 39) (pc' := 25) dX9_next_22 rfl rfl h.1 (zRd rfl) (fun hc => ?_) (fun hc => ?_)
        · have h := h.2.1 hc
          refine zr_aload_n (pc' := 40) (i := 0) dX9_next_39 rfl rfl rfl ?_
          refine zr_dup (pc' := 41) dX9_next_40 rfl rfl ?_
          refine zr_get (pc' := 44) dX9_next_41 rfl ps_2 kd_2 fl_X9_29 kc_9 (gv_2_3 _) ?_
          refine zr_iconst (pc' := 45) dX9_next_44 rfl ?_
          refine zr_iadd (pc' := 46) dX9_next_45 rfl ?_
          refine zr_put (pc' := 49) dX9_next_46 rfl ps_2 kd_2 fl_X9_29 kc_9 rfl nf_2_3 rfl trivial (fun M39 hM1 => ?_)
          have h := h M39 hM1
          refine zr_goto (pc' := 0) dX9_next_49 rfl ?_
          obtain ⟨n', hn, h⟩ := h
          exact zn_al ((ih n' hn)  _ h) ⟨rfl, trivial⟩
        · have h := h.2.2 hc
          refine zr_aload_n (pc' := 26) (i := 0) dX9_next_25 rfl rfl rfl ?_
          refine zr_get (pc' := 29) dX9_next_26 rfl ps_2 kd_2 fl_X9_9 kc_9 (gv_2_0 _) ?_
          refine zr_aload_n (pc' := 30) (i := 0) dX9_next_29 rfl rfl rfl ?_
          refine zr_get (pc' := 33) dX9_next_30 rfl ps_2 kd_2 fl_X9_29 kc_9 (gv_2_3 _) ?_
          refine zr_iald (pc' := 34) dX9_next_33 rfl ps_3 kd_3 (by decide) h.1.1 h.1.2 ?_
          have h := h.2
          refine zr_bipush (pc' := 36) dX9_next_34 rfl rfl ?_
          refine zr_icmp_ne (tgt := 52) (pc' := 39) dX9_next_36 rfl rfl h.1 (zRd rfl) (fun hc => ?_) (fun hc => ?_)
          · have h := h.2.1 hc
            refine zr_aload_n (pc' := 53) (i := 0) dX9_next_52 rfl rfl rfl ?_
            refine zr_aload_n (pc' := 54) (i := 0) dX9_next_53 rfl rfl rfl ?_
            refine zr_get (pc' := 57) dX9_next_54 rfl ps_2 kd_2 fl_X9_29 kc_9 (gv_2_3 _) ?_
            refine zr_put (pc' := 60) dX9_next_57 rfl ps_2 kd_2 fl_X9_32 kc_9 rfl nf_2_5 rfl trivial (fun M40 hM1 => ?_)
            have h := h M40 hM1
            refine zr_aload_n (pc' := 61) (i := 0) dX9_next_60 rfl rfl rfl ?_
            refine zr_get (pc' := 64) dX9_next_61 rfl ps_2 kd_2 fl_X9_29 kc_9 (gv_2_3 _) ?_
            refine zr_aload_n (pc' := 65) (i := 0) dX9_next_64 rfl rfl rfl ?_
            refine zr_get (pc' := 68) dX9_next_65 rfl ps_2 kd_2 fl_X9_26 kc_9 (gv_2_2 _) ?_
            refine zr_icmp_lt (tgt := 80) (pc' := 71) dX9_next_68 rfl rfl h.1.1 h.1.2 (fun hc => ?_) (fun hc => ?_)
            · have h := h.2.1 hc
              refine zr_aload_n (pc' := 81) (i := 0) dX9_next_80 rfl rfl rfl ?_
              refine zr_get (pc' := 84) dX9_next_81 rfl ps_2 kd_2 fl_X9_9 kc_9 (gv_2_0 _) ?_
              refine zr_aload_n (pc' := 85) (i := 0) dX9_next_84 rfl rfl rfl ?_
              refine zr_get (pc' := 88) dX9_next_85 rfl ps_2 kd_2 fl_X9_29 kc_9 (gv_2_3 _) ?_
              refine zr_iald (pc' := 89) dX9_next_88 rfl ps_3 kd_3 (by decide) h.1.1 h.1.2 ?_
              have h := h.2
              refine zn_callS (pc' := 92) (args := [.inl (M40 3 ((M40 2 3).toNat))]) (st := []) (st' := fun r41 => [.inl r41]) dX9_next_89 rfl cs_X9_38 ⟨rfl, rfl, by decide, by decide⟩ rfl rfl rfl (Nat.le_of_ble_eq_true rfl) (fun _ => rfl) h ?_
              intro r41 M42 h
              refine zr_if_eq (tgt := 102) (pc' := 95) dX9_next_92 rfl rfl h.1 (fun hc => ?_) (fun hc => ?_)
              · have h := h.2.1 hc
                refine zr_aload_n (pc' := 103) (i := 0) dX9_next_102 rfl rfl rfl ?_
                refine zr_get (pc' := 106) dX9_next_103 rfl ps_2 kd_2 fl_X9_9 kc_9 (gv_2_0 _) ?_
                refine zr_aload_n (pc' := 107) (i := 0) dX9_next_106 rfl rfl rfl ?_
                refine zr_get (pc' := 110) dX9_next_107 rfl ps_2 kd_2 fl_X9_29 kc_9 (gv_2_3 _) ?_
                refine zr_iald (pc' := 111) dX9_next_110 rfl ps_3 kd_3 (by decide) h.1.1 h.1.2 ?_
                have h := h.2
                refine zn_callS (pc' := 114) (args := [.inl (M42 3 ((M42 2 3).toNat))]) (st := []) (st' := fun r43 => [.inl r43]) dX9_next_111 rfl cs_X9_45 ⟨rfl, rfl, by decide, by decide⟩ rfl rfl rfl (Nat.le_of_ble_eq_true rfl) (fun _ => rfl) h ?_
                intro r43 M44 h
                refine zr_if_eq (tgt := 124) (pc' := 117) dX9_next_114 rfl rfl h.1 (fun hc => ?_) (fun hc => ?_)
                · have h := h.2.1 hc
                  refine zr_aload_n (pc' := 125) (i := 0) dX9_next_124 rfl rfl rfl ?_
                  refine zn_callV (pc' := 128) (args := []) (st := []) (st' := fun _ => []) dX9_next_125 rfl cv_X9_51 ⟨rfl, rfl, by decide, by decide⟩ rfl ps_2 kd_2 rfl rfl (Nat.le_of_ble_eq_true rfl) (fun _ => rfl) h ?_
                  intro r45 M46 h
                  exact zr_return (x := 0) dX9_next_128 rfl (Nat.le_refl _) (Nat.le_refl _) (And.intro rfl h)
                · have h := h.2.2 hc
                  refine zr_aload_n (pc' := 118) (i := 0) dX9_next_117 rfl rfl rfl ?_
                  refine zn_callV (pc' := 121) (args := []) (st := []) (st' := fun _ => []) dX9_next_118 rfl cv_X9_48 ⟨rfl, rfl, by decide, by decide⟩ rfl ps_2 kd_2 rfl rfl (Nat.le_of_ble_eq_true rfl) (fun _ => rfl) h ?_
                  intro r47 M48 h
                  refine zr_goto (pc' := 128) dX9_next_121 rfl ?_
                  exact zr_return (x := 0) dX9_next_128 rfl (Nat.le_refl _) (Nat.le_refl _) (And.intro rfl h)
              · have h := h.2.2 hc
                refine zr_aload_n (pc' := 96) (i := 0) dX9_next_95 rfl rfl rfl ?_
                refine zn_callV (pc' := 99) (args := []) (st := []) (st' := fun _ => []) dX9_next_96 rfl cv_X9_42 ⟨rfl, rfl, by decide, by decide⟩ rfl ps_2 kd_2 rfl rfl (Nat.le_of_ble_eq_true rfl) (fun _ => rfl) h ?_
                intro r49 M50 h
                refine zr_goto (pc' := 128) dX9_next_99 rfl ?_
                exact zr_return (x := 0) dX9_next_128 rfl (Nat.le_refl _) (Nat.le_refl _) (And.intro rfl h)
            · have h := h.2.2 hc
              refine zr_aload_n (pc' := 72) (i := 0) dX9_next_71 rfl rfl rfl ?_
              refine zr_bipush (pc' := 74) dX9_next_72 rfl rfl ?_
              refine zr_put (pc' := 77) dX9_next_74 rfl ps_2 kd_2 fl_X9_35 kc_9 rfl nf_2_4 rfl trivial (fun M51 hM1 => ?_)
              have h := h M51 hM1
              refine zr_goto (pc' := 128) dX9_next_77 rfl ?_
              exact zr_return (x := 0) dX9_next_128 rfl (Nat.le_refl _) (Nat.le_refl _) (And.intro rfl h)
          · have h := h.2.2 hc
            refine zr_aload_n (pc' := 40) (i := 0) dX9_next_39 rfl rfl rfl ?_
            refine zr_dup (pc' := 41) dX9_next_40 rfl rfl ?_
            refine zr_get (pc' := 44) dX9_next_41 rfl ps_2 kd_2 fl_X9_29 kc_9 (gv_2_3 _) ?_
            refine zr_iconst (pc' := 45) dX9_next_44 rfl ?_
            refine zr_iadd (pc' := 46) dX9_next_45 rfl ?_
            refine zr_put (pc' := 49) dX9_next_46 rfl ps_2 kd_2 fl_X9_29 kc_9 rfl nf_2_3 rfl trivial (fun M52 hM1 => ?_)
            have h := h M52 hM1
            refine zr_goto (pc' := 0) dX9_next_49 rfl ?_
            obtain ⟨n', hn, h⟩ := h
            exact zn_al ((ih n' hn)  _ h) ⟨rfl, trivial⟩
  refine zP_of (by decide +kernel) rfl (Nat.le_of_ble_eq_true rfl) ?_
  show zA E zNN (0, 0) mX9_next 0 [(0, .inr (.inr 2))] [] M (zQ Q)
  refine zr_aload_n (pc' := 1) (i := 0) dX9_next_0 rfl rfl rfl ?_
  refine zr_get (pc' := 4) dX9_next_1 rfl ps_2 kd_2 fl_X9_29 kc_9 (gv_2_3 _) ?_
  refine zr_aload_n (pc' := 5) (i := 0) dX9_next_4 rfl rfl rfl ?_
  refine zr_get (pc' := 8) dX9_next_5 rfl ps_2 kd_2 fl_X9_26 kc_9 (gv_2_2 _) ?_
  refine zr_icmp_ge (tgt := 52) (pc' := 11) dX9_next_8 rfl rfl h.1.1 h.1.2 (fun hc => ?_) (fun hc => ?_)
  · have h := h.2.1 hc
    refine zr_aload_n (pc' := 53) (i := 0) dX9_next_52 rfl rfl rfl ?_
    refine zr_aload_n (pc' := 54) (i := 0) dX9_next_53 rfl rfl rfl ?_
    refine zr_get (pc' := 57) dX9_next_54 rfl ps_2 kd_2 fl_X9_29 kc_9 (gv_2_3 _) ?_
    refine zr_put (pc' := 60) dX9_next_57 rfl ps_2 kd_2 fl_X9_32 kc_9 rfl nf_2_5 rfl trivial (fun M1 hM1 => ?_)
    have h := h M1 hM1
    refine zr_aload_n (pc' := 61) (i := 0) dX9_next_60 rfl rfl rfl ?_
    refine zr_get (pc' := 64) dX9_next_61 rfl ps_2 kd_2 fl_X9_29 kc_9 (gv_2_3 _) ?_
    refine zr_aload_n (pc' := 65) (i := 0) dX9_next_64 rfl rfl rfl ?_
    refine zr_get (pc' := 68) dX9_next_65 rfl ps_2 kd_2 fl_X9_26 kc_9 (gv_2_2 _) ?_
    refine zr_icmp_lt (tgt := 80) (pc' := 71) dX9_next_68 rfl rfl h.1.1 h.1.2 (fun hc => ?_) (fun hc => ?_)
    · have h := h.2.1 hc
      refine zr_aload_n (pc' := 81) (i := 0) dX9_next_80 rfl rfl rfl ?_
      refine zr_get (pc' := 84) dX9_next_81 rfl ps_2 kd_2 fl_X9_9 kc_9 (gv_2_0 _) ?_
      refine zr_aload_n (pc' := 85) (i := 0) dX9_next_84 rfl rfl rfl ?_
      refine zr_get (pc' := 88) dX9_next_85 rfl ps_2 kd_2 fl_X9_29 kc_9 (gv_2_3 _) ?_
      refine zr_iald (pc' := 89) dX9_next_88 rfl ps_3 kd_3 (by decide) h.1.1 h.1.2 ?_
      have h := h.2
      refine zn_callS (pc' := 92) (args := [.inl (M1 3 ((M1 2 3).toNat))]) (st := []) (st' := fun r2 => [.inl r2]) dX9_next_89 rfl cs_X9_38 ⟨rfl, rfl, by decide, by decide⟩ rfl rfl rfl (Nat.le_of_ble_eq_true rfl) (fun _ => rfl) h ?_
      intro r2 M3 h
      refine zr_if_eq (tgt := 102) (pc' := 95) dX9_next_92 rfl rfl h.1 (fun hc => ?_) (fun hc => ?_)
      · have h := h.2.1 hc
        refine zr_aload_n (pc' := 103) (i := 0) dX9_next_102 rfl rfl rfl ?_
        refine zr_get (pc' := 106) dX9_next_103 rfl ps_2 kd_2 fl_X9_9 kc_9 (gv_2_0 _) ?_
        refine zr_aload_n (pc' := 107) (i := 0) dX9_next_106 rfl rfl rfl ?_
        refine zr_get (pc' := 110) dX9_next_107 rfl ps_2 kd_2 fl_X9_29 kc_9 (gv_2_3 _) ?_
        refine zr_iald (pc' := 111) dX9_next_110 rfl ps_3 kd_3 (by decide) h.1.1 h.1.2 ?_
        have h := h.2
        refine zn_callS (pc' := 114) (args := [.inl (M3 3 ((M3 2 3).toNat))]) (st := []) (st' := fun r4 => [.inl r4]) dX9_next_111 rfl cs_X9_45 ⟨rfl, rfl, by decide, by decide⟩ rfl rfl rfl (Nat.le_of_ble_eq_true rfl) (fun _ => rfl) h ?_
        intro r4 M5 h
        refine zr_if_eq (tgt := 124) (pc' := 117) dX9_next_114 rfl rfl h.1 (fun hc => ?_) (fun hc => ?_)
        · have h := h.2.1 hc
          refine zr_aload_n (pc' := 125) (i := 0) dX9_next_124 rfl rfl rfl ?_
          refine zn_callV (pc' := 128) (args := []) (st := []) (st' := fun _ => []) dX9_next_125 rfl cv_X9_51 ⟨rfl, rfl, by decide, by decide⟩ rfl ps_2 kd_2 rfl rfl (Nat.le_of_ble_eq_true rfl) (fun _ => rfl) h ?_
          intro r6 M7 h
          exact zr_return (x := 0) dX9_next_128 rfl (Nat.le_refl _) (Nat.le_refl _) (And.intro rfl h)
        · have h := h.2.2 hc
          refine zr_aload_n (pc' := 118) (i := 0) dX9_next_117 rfl rfl rfl ?_
          refine zn_callV (pc' := 121) (args := []) (st := []) (st' := fun _ => []) dX9_next_118 rfl cv_X9_48 ⟨rfl, rfl, by decide, by decide⟩ rfl ps_2 kd_2 rfl rfl (Nat.le_of_ble_eq_true rfl) (fun _ => rfl) h ?_
          intro r8 M9 h
          refine zr_goto (pc' := 128) dX9_next_121 rfl ?_
          exact zr_return (x := 0) dX9_next_128 rfl (Nat.le_refl _) (Nat.le_refl _) (And.intro rfl h)
      · have h := h.2.2 hc
        refine zr_aload_n (pc' := 96) (i := 0) dX9_next_95 rfl rfl rfl ?_
        refine zn_callV (pc' := 99) (args := []) (st := []) (st' := fun _ => []) dX9_next_96 rfl cv_X9_42 ⟨rfl, rfl, by decide, by decide⟩ rfl ps_2 kd_2 rfl rfl (Nat.le_of_ble_eq_true rfl) (fun _ => rfl) h ?_
        intro r10 M11 h
        refine zr_goto (pc' := 128) dX9_next_99 rfl ?_
        exact zr_return (x := 0) dX9_next_128 rfl (Nat.le_refl _) (Nat.le_refl _) (And.intro rfl h)
    · have h := h.2.2 hc
      refine zr_aload_n (pc' := 72) (i := 0) dX9_next_71 rfl rfl rfl ?_
      refine zr_bipush (pc' := 74) dX9_next_72 rfl rfl ?_
      refine zr_put (pc' := 77) dX9_next_74 rfl ps_2 kd_2 fl_X9_35 kc_9 rfl nf_2_4 rfl trivial (fun M12 hM1 => ?_)
      have h := h M12 hM1
      refine zr_goto (pc' := 128) dX9_next_77 rfl ?_
      exact zr_return (x := 0) dX9_next_128 rfl (Nat.le_refl _) (Nat.le_refl _) (And.intro rfl h)
  · have h := h.2.2 hc
    refine zr_aload_n (pc' := 12) (i := 0) dX9_next_11 rfl rfl rfl ?_
    refine zr_get (pc' := 15) dX9_next_12 rfl ps_2 kd_2 fl_X9_9 kc_9 (gv_2_0 _) ?_
    refine zr_aload_n (pc' := 16) (i := 0) dX9_next_15 rfl rfl rfl ?_
    refine zr_get (pc' := 19) dX9_next_16 rfl ps_2 kd_2 fl_X9_29 kc_9 (gv_2_3 _) ?_
    refine zr_iald (pc' := 20) dX9_next_19 rfl ps_3 kd_3 (by decide) h.1.1 h.1.2 ?_
    have h := h.2
    refine zr_bipush (pc' := 22) dX9_next_20 rfl rfl ?_
    refine zr_icmp_eq (tgt := 39) (pc' := 25) dX9_next_22 rfl rfl h.1 (zRd rfl) (fun hc => ?_) (fun hc => ?_)
    · have h := h.2.1 hc
      refine zr_aload_n (pc' := 40) (i := 0) dX9_next_39 rfl rfl rfl ?_
      refine zr_dup (pc' := 41) dX9_next_40 rfl rfl ?_
      refine zr_get (pc' := 44) dX9_next_41 rfl ps_2 kd_2 fl_X9_29 kc_9 (gv_2_3 _) ?_
      refine zr_iconst (pc' := 45) dX9_next_44 rfl ?_
      refine zr_iadd (pc' := 46) dX9_next_45 rfl ?_
      refine zr_put (pc' := 49) dX9_next_46 rfl ps_2 kd_2 fl_X9_29 kc_9 rfl nf_2_3 rfl trivial (fun M13 hM1 => ?_)
      have h := h M13 hM1
      refine zr_goto (pc' := 0) dX9_next_49 rfl ?_
      obtain ⟨n', h⟩ := h
      exact zn_al ((key n')  _ h) ⟨rfl, trivial⟩
    · have h := h.2.2 hc
      refine zr_aload_n (pc' := 26) (i := 0) dX9_next_25 rfl rfl rfl ?_
      refine zr_get (pc' := 29) dX9_next_26 rfl ps_2 kd_2 fl_X9_9 kc_9 (gv_2_0 _) ?_
      refine zr_aload_n (pc' := 30) (i := 0) dX9_next_29 rfl rfl rfl ?_
      refine zr_get (pc' := 33) dX9_next_30 rfl ps_2 kd_2 fl_X9_29 kc_9 (gv_2_3 _) ?_
      refine zr_iald (pc' := 34) dX9_next_33 rfl ps_3 kd_3 (by decide) h.1.1 h.1.2 ?_
      have h := h.2
      refine zr_bipush (pc' := 36) dX9_next_34 rfl rfl ?_
      refine zr_icmp_ne (tgt := 52) (pc' := 39) dX9_next_36 rfl rfl h.1 (zRd rfl) (fun hc => ?_) (fun hc => ?_)
      · have h := h.2.1 hc
        refine zr_aload_n (pc' := 53) (i := 0) dX9_next_52 rfl rfl rfl ?_
        refine zr_aload_n (pc' := 54) (i := 0) dX9_next_53 rfl rfl rfl ?_
        refine zr_get (pc' := 57) dX9_next_54 rfl ps_2 kd_2 fl_X9_29 kc_9 (gv_2_3 _) ?_
        refine zr_put (pc' := 60) dX9_next_57 rfl ps_2 kd_2 fl_X9_32 kc_9 rfl nf_2_5 rfl trivial (fun M14 hM1 => ?_)
        have h := h M14 hM1
        refine zr_aload_n (pc' := 61) (i := 0) dX9_next_60 rfl rfl rfl ?_
        refine zr_get (pc' := 64) dX9_next_61 rfl ps_2 kd_2 fl_X9_29 kc_9 (gv_2_3 _) ?_
        refine zr_aload_n (pc' := 65) (i := 0) dX9_next_64 rfl rfl rfl ?_
        refine zr_get (pc' := 68) dX9_next_65 rfl ps_2 kd_2 fl_X9_26 kc_9 (gv_2_2 _) ?_
        refine zr_icmp_lt (tgt := 80) (pc' := 71) dX9_next_68 rfl rfl h.1.1 h.1.2 (fun hc => ?_) (fun hc => ?_)
        · have h := h.2.1 hc
          refine zr_aload_n (pc' := 81) (i := 0) dX9_next_80 rfl rfl rfl ?_
          refine zr_get (pc' := 84) dX9_next_81 rfl ps_2 kd_2 fl_X9_9 kc_9 (gv_2_0 _) ?_
          refine zr_aload_n (pc' := 85) (i := 0) dX9_next_84 rfl rfl rfl ?_
          refine zr_get (pc' := 88) dX9_next_85 rfl ps_2 kd_2 fl_X9_29 kc_9 (gv_2_3 _) ?_
          refine zr_iald (pc' := 89) dX9_next_88 rfl ps_3 kd_3 (by decide) h.1.1 h.1.2 ?_
          have h := h.2
          refine zn_callS (pc' := 92) (args := [.inl (M14 3 ((M14 2 3).toNat))]) (st := []) (st' := fun r15 => [.inl r15]) dX9_next_89 rfl cs_X9_38 ⟨rfl, rfl, by decide, by decide⟩ rfl rfl rfl (Nat.le_of_ble_eq_true rfl) (fun _ => rfl) h ?_
          intro r15 M16 h
          refine zr_if_eq (tgt := 102) (pc' := 95) dX9_next_92 rfl rfl h.1 (fun hc => ?_) (fun hc => ?_)
          · have h := h.2.1 hc
            refine zr_aload_n (pc' := 103) (i := 0) dX9_next_102 rfl rfl rfl ?_
            refine zr_get (pc' := 106) dX9_next_103 rfl ps_2 kd_2 fl_X9_9 kc_9 (gv_2_0 _) ?_
            refine zr_aload_n (pc' := 107) (i := 0) dX9_next_106 rfl rfl rfl ?_
            refine zr_get (pc' := 110) dX9_next_107 rfl ps_2 kd_2 fl_X9_29 kc_9 (gv_2_3 _) ?_
            refine zr_iald (pc' := 111) dX9_next_110 rfl ps_3 kd_3 (by decide) h.1.1 h.1.2 ?_
            have h := h.2
            refine zn_callS (pc' := 114) (args := [.inl (M16 3 ((M16 2 3).toNat))]) (st := []) (st' := fun r17 => [.inl r17]) dX9_next_111 rfl cs_X9_45 ⟨rfl, rfl, by decide, by decide⟩ rfl rfl rfl (Nat.le_of_ble_eq_true rfl) (fun _ => rfl) h ?_
            intro r17 M18 h
            refine zr_if_eq (tgt := 124) (pc' := 117) dX9_next_114 rfl rfl h.1 (fun hc => ?_) (fun hc => ?_)
            · have h := h.2.1 hc
              refine zr_aload_n (pc' := 125) (i := 0) dX9_next_124 rfl rfl rfl ?_
              refine zn_callV (pc' := 128) (args := []) (st := []) (st' := fun _ => []) dX9_next_125 rfl cv_X9_51 ⟨rfl, rfl, by decide, by decide⟩ rfl ps_2 kd_2 rfl rfl (Nat.le_of_ble_eq_true rfl) (fun _ => rfl) h ?_
              intro r19 M20 h
              exact zr_return (x := 0) dX9_next_128 rfl (Nat.le_refl _) (Nat.le_refl _) (And.intro rfl h)
            · have h := h.2.2 hc
              refine zr_aload_n (pc' := 118) (i := 0) dX9_next_117 rfl rfl rfl ?_
              refine zn_callV (pc' := 121) (args := []) (st := []) (st' := fun _ => []) dX9_next_118 rfl cv_X9_48 ⟨rfl, rfl, by decide, by decide⟩ rfl ps_2 kd_2 rfl rfl (Nat.le_of_ble_eq_true rfl) (fun _ => rfl) h ?_
              intro r21 M22 h
              refine zr_goto (pc' := 128) dX9_next_121 rfl ?_
              exact zr_return (x := 0) dX9_next_128 rfl (Nat.le_refl _) (Nat.le_refl _) (And.intro rfl h)
          · have h := h.2.2 hc
            refine zr_aload_n (pc' := 96) (i := 0) dX9_next_95 rfl rfl rfl ?_
            refine zn_callV (pc' := 99) (args := []) (st := []) (st' := fun _ => []) dX9_next_96 rfl cv_X9_42 ⟨rfl, rfl, by decide, by decide⟩ rfl ps_2 kd_2 rfl rfl (Nat.le_of_ble_eq_true rfl) (fun _ => rfl) h ?_
            intro r23 M24 h
            refine zr_goto (pc' := 128) dX9_next_99 rfl ?_
            exact zr_return (x := 0) dX9_next_128 rfl (Nat.le_refl _) (Nat.le_refl _) (And.intro rfl h)
        · have h := h.2.2 hc
          refine zr_aload_n (pc' := 72) (i := 0) dX9_next_71 rfl rfl rfl ?_
          refine zr_bipush (pc' := 74) dX9_next_72 rfl rfl ?_
          refine zr_put (pc' := 77) dX9_next_74 rfl ps_2 kd_2 fl_X9_35 kc_9 rfl nf_2_4 rfl trivial (fun M25 hM1 => ?_)
          have h := h M25 hM1
          refine zr_goto (pc' := 128) dX9_next_77 rfl ?_
          exact zr_return (x := 0) dX9_next_128 rfl (Nat.le_refl _) (Nat.le_refl _) (And.intro rfl h)
      · have h := h.2.2 hc
        refine zr_aload_n (pc' := 40) (i := 0) dX9_next_39 rfl rfl rfl ?_
        refine zr_dup (pc' := 41) dX9_next_40 rfl rfl ?_
        refine zr_get (pc' := 44) dX9_next_41 rfl ps_2 kd_2 fl_X9_29 kc_9 (gv_2_3 _) ?_
        refine zr_iconst (pc' := 45) dX9_next_44 rfl ?_
        refine zr_iadd (pc' := 46) dX9_next_45 rfl ?_
        refine zr_put (pc' := 49) dX9_next_46 rfl ps_2 kd_2 fl_X9_29 kc_9 rfl nf_2_3 rfl trivial (fun M26 hM1 => ?_)
        have h := h M26 hM1
        refine zr_goto (pc' := 0) dX9_next_49 rfl ?_
        obtain ⟨n', h⟩ := h
        exact zn_al ((key n')  _ h) ⟨rfl, trivial⟩
set_option maxRecDepth 20000 in
theorem vcX9_isLetter {E : zE} {M : zM} {Q : Int → zM → Prop} (l0 : Int)
    (h : ((zR l0) ∧ ((l0 < 97 → Q 0 M) ∧ (97 ≤ l0 → ((zR l0) ∧ ((122 < l0 → Q 0 M) ∧ (l0 ≤ 122 → Q 1 M)))))))
    : zP E mX9_isLetter [.inl l0] M Q := by
  refine zP_of (by decide +kernel) rfl (Nat.le_of_ble_eq_true rfl) ?_
  show zA E zNN (0, 0) mX9_isLetter 0 [(0, .inl l0)] [] M (zQ Q)
  refine zr_iload_n (pc' := 1) (i := 0) dX9_isLetter_0 rfl rfl rfl ?_
  refine zr_bipush (pc' := 3) dX9_isLetter_1 rfl rfl ?_
  refine zr_icmp_lt (tgt := 16) (pc' := 6) dX9_isLetter_3 rfl rfl h.1 (zRd rfl) (fun hc => ?_) (fun hc => ?_)
  · have h := h.2.1 hc
    refine zr_iconst (pc' := 17) dX9_isLetter_16 rfl ?_
    exact zr_ireturn dX9_isLetter_17 rfl rfl (Or.inl rfl) (Nat.le_refl _) (Nat.le_refl _) (And.intro rfl h)
  · have h := h.2.2 hc
    refine zr_iload_n (pc' := 7) (i := 0) dX9_isLetter_6 rfl rfl rfl ?_
    refine zr_bipush (pc' := 9) dX9_isLetter_7 rfl rfl ?_
    refine zr_icmp_gt (tgt := 16) (pc' := 12) dX9_isLetter_9 rfl rfl h.1 (zRd rfl) (fun hc => ?_) (fun hc => ?_)
    · have h := h.2.1 hc
      refine zr_iconst (pc' := 17) dX9_isLetter_16 rfl ?_
      exact zr_ireturn dX9_isLetter_17 rfl rfl (Or.inl rfl) (Nat.le_refl _) (Nat.le_refl _) (And.intro rfl h)
    · have h := h.2.2 hc
      refine zr_iconst (pc' := 13) dX9_isLetter_12 rfl ?_
      refine zr_goto (pc' := 17) dX9_isLetter_13 rfl ?_
      exact zr_ireturn dX9_isLetter_17 rfl rfl (Or.inr rfl) (Nat.le_refl _) (Nat.le_refl _) (And.intro rfl h)
set_option maxRecDepth 20000 in
theorem vcX9_isDigit {E : zE} {M : zM} {Q : Int → zM → Prop} (l0 : Int)
    (h : ((zR l0) ∧ ((l0 < 48 → Q 0 M) ∧ (48 ≤ l0 → ((zR l0) ∧ ((57 < l0 → Q 0 M) ∧ (l0 ≤ 57 → Q 1 M)))))))
    : zP E mX9_isDigit [.inl l0] M Q := by
  refine zP_of (by decide +kernel) rfl (Nat.le_of_ble_eq_true rfl) ?_
  show zA E zNN (0, 0) mX9_isDigit 0 [(0, .inl l0)] [] M (zQ Q)
  refine zr_iload_n (pc' := 1) (i := 0) dX9_isDigit_0 rfl rfl rfl ?_
  refine zr_bipush (pc' := 3) dX9_isDigit_1 rfl rfl ?_
  refine zr_icmp_lt (tgt := 16) (pc' := 6) dX9_isDigit_3 rfl rfl h.1 (zRd rfl) (fun hc => ?_) (fun hc => ?_)
  · have h := h.2.1 hc
    refine zr_iconst (pc' := 17) dX9_isDigit_16 rfl ?_
    exact zr_ireturn dX9_isDigit_17 rfl rfl (Or.inl rfl) (Nat.le_refl _) (Nat.le_refl _) (And.intro rfl h)
  · have h := h.2.2 hc
    refine zr_iload_n (pc' := 7) (i := 0) dX9_isDigit_6 rfl rfl rfl ?_
    refine zr_bipush (pc' := 9) dX9_isDigit_7 rfl rfl ?_
    refine zr_icmp_gt (tgt := 16) (pc' := 12) dX9_isDigit_9 rfl rfl h.1 (zRd rfl) (fun hc => ?_) (fun hc => ?_)
    · have h := h.2.1 hc
      refine zr_iconst (pc' := 17) dX9_isDigit_16 rfl ?_
      exact zr_ireturn dX9_isDigit_17 rfl rfl (Or.inl rfl) (Nat.le_refl _) (Nat.le_refl _) (And.intro rfl h)
    · have h := h.2.2 hc
      refine zr_iconst (pc' := 13) dX9_isDigit_12 rfl ?_
      refine zr_goto (pc' := 17) dX9_isDigit_13 rfl ?_
      exact zr_ireturn dX9_isDigit_17 rfl rfl (Or.inr rfl) (Nat.le_refl _) (Nat.le_refl _) (And.intro rfl h)
set_option maxRecDepth 20000 in
theorem vcX9_readWord {E : zE} {M : zM} {Q : Int → zM → Prop} (I0 : Nat → zM → Prop) (I51 : Nat → Int → Int → Int → zM → Prop)
    (h : ((zR (M 2 3) ∧ zR (M 2 2)) ∧ (((M 2 2) ≤ (M 2 3) → (∀ M1, M1 = zup M 2 4 33 → ∃ n', I51 n' 0 0 0 M1)) ∧ ((M 2 3) < (M 2 2) → (0 ≤ M 2 3 ∧ M 2 3 < 500) ∧ (zP E mX9_isLetter [.inl (M 3 ((M 2 3).toNat))] M (fun r2 M3 => ((zR r2) ∧ ((r2 = 0 → (∀ M4, M4 = zup M3 2 4 33 → ∃ n', I51 n' 0 0 0 M4)) ∧ (¬ r2 = 0 → (∀ M5, M5 = zup M3 2 3 ((M3 2 3) + 1) → ∃ n', I0 n'  M5))))))))))
    (h0 : ∀ (n : Nat) (M : zM), I0 n  M → ((zR (M 2 3) ∧ zR (M 2 2)) ∧ (((M 2 2) ≤ (M 2 3) → (∀ M6, M6 = zup M 2 4 33 → ∃ n', n' < n ∧ I51 n' 0 0 0 M6)) ∧ ((M 2 3) < (M 2 2) → (0 ≤ M 2 3 ∧ M 2 3 < 500) ∧ (zP E mX9_isLetter [.inl (M 3 ((M 2 3).toNat))] M (fun r7 M8 => ((zR r7) ∧ ((r7 = 0 → (∀ M9, M9 = zup M8 2 4 33 → ∃ n', n' < n ∧ I51 n' 0 0 0 M9)) ∧ (¬ r7 = 0 → (∀ M10, M10 = zup M8 2 3 ((M8 2 3) + 1) → ∃ n', n' < n ∧ I0 n'  M10))))))))))
    (h51 : ∀ (n : Nat) (l1 l2 l3 : Int) (M : zM), I51 n l1 l2 l3 M → ((zR l3) ∧ ((77 ≤ l3 → Q 0 M) ∧ (l3 < 77 → (0 ≤ l3 ∧ l3 < 77) ∧ ((zR (zWin.getD l3.toNat 0)) ∧ ((¬ (zWin.getD l3.toNat 0) = 32 → ∃ n', n' < n ∧ I51 n' l1 l2 (l3 + 1) M) ∧ ((zWin.getD l3.toNat 0) = 32 → (zP E mX9_isWordAt [.inr (.inr 2), .inl l2, .inl l3] M (fun r11 M12 => ((zR r11) ∧ ((r11 = 0 → ∃ n', n' < n ∧ I51 n' (l1 + 1) (l3 + 1) (l3 + 1) M12) ∧ (¬ r11 = 0 → (∀ M13, M13 = zup M12 2 4 l1 → ∃ n', n' < n ∧ I51 n' (l1 + 1) (l3 + 1) (l3 + 1) M13)))))))))))))
    : zP E mX9_readWord [.inr (.inr 2)] M Q := by
  have key : ∀ n : Nat, (∀ (M : zM), I0 n  M → zA E zNN (0, 0) mX9_readWord 0 [(0, .inr (.inr 2))] [] M (zQ Q)) ∧ (∀ (l1 l2 l3 : Int) (M : zM), I51 n l1 l2 l3 M → zA E zNN (0, 0) mX9_readWord 51 [(0, .inr (.inr 2)), (1, .inl l1), (2, .inl l2), (3, .inl l3)] [] M (zQ Q)) := by
    intro n
    induction n using Nat.strongRecOn with
    | ind n ih =>
      refine ⟨?_, ?_⟩
      · intro  M h
        have h := h0 n  M h
        refine zr_aload_n (pc' := 1) (i := 0) dX9_readWord_0 rfl rfl rfl ?_
        refine zr_get (pc' := 4) dX9_readWord_1 rfl ps_2 kd_2 fl_X9_29 kc_9 (gv_2_3 _) ?_
        refine zr_aload_n (pc' := 5) (i := 0) dX9_readWord_4 rfl rfl rfl ?_
        refine zr_get (pc' := 8) dX9_readWord_5 rfl ps_2 kd_2 fl_X9_26 kc_9 (gv_2_2 _) ?_
        refine zr_icmp_ge (tgt := 39) (pc' := 11) dX9_readWord_8 rfl rfl h.1.1 h.1.2 (fun hc => ?_) (fun hc => ?_)
        · have h := h.2.1 hc
          refine zr_aload_n (pc' := 40) (i := 0) dX9_readWord_39 rfl rfl rfl ?_
          refine zr_bipush (pc' := 42) dX9_readWord_40 rfl rfl ?_
          refine zr_put (pc' := 45) dX9_readWord_42 rfl ps_2 kd_2 fl_X9_35 kc_9 rfl nf_2_4 rfl trivial (fun M6 hM1 => ?_)
          have h := h M6 hM1
          refine zr_iconst (pc' := 46) dX9_readWord_45 rfl ?_
          refine zr_istore_n (pc' := 47) (i := 1) (al' := [(1, .inl 0), (0, .inr (.inr 2))]) dX9_readWord_46 rfl rfl (by decide) rfl ?_
          refine zr_iconst (pc' := 48) dX9_readWord_47 rfl ?_
          refine zr_istore_n (pc' := 49) (i := 2) (al' := [(2, .inl 0), (1, .inl 0), (0, .inr (.inr 2))]) dX9_readWord_48 rfl rfl (by decide) rfl ?_
          refine zr_iconst (pc' := 50) dX9_readWord_49 rfl ?_
          refine zr_istore_n (pc' := 51) (i := 3) (al' := [(3, .inl 0), (2, .inl 0), (1, .inl 0), (0, .inr (.inr 2))]) dX9_readWord_50 rfl rfl (by decide) rfl ?_
          obtain ⟨n', hn, h⟩ := h
          exact zn_al ((ih n' hn).2 _ _ _ _ h) ⟨rfl, rfl, rfl, rfl, trivial⟩
        · have h := h.2.2 hc
          refine zr_aload_n (pc' := 12) (i := 0) dX9_readWord_11 rfl rfl rfl ?_
          refine zr_get (pc' := 15) dX9_readWord_12 rfl ps_2 kd_2 fl_X9_9 kc_9 (gv_2_0 _) ?_
          refine zr_aload_n (pc' := 16) (i := 0) dX9_readWord_15 rfl rfl rfl ?_
          refine zr_get (pc' := 19) dX9_readWord_16 rfl ps_2 kd_2 fl_X9_29 kc_9 (gv_2_3 _) ?_
          refine zr_iald (pc' := 20) dX9_readWord_19 rfl ps_3 kd_3 (by decide) h.1.1 h.1.2 ?_
          have h := h.2
          refine zn_callS (pc' := 23) (args := [.inl (M 3 ((M 2 3).toNat))]) (st := []) (st' := fun r7 => [.inl r7]) dX9_readWord_20 rfl cs_X9_38 ⟨rfl, rfl, by decide, by decide⟩ rfl rfl rfl (Nat.le_of_ble_eq_true rfl) (fun _ => rfl) h ?_
          intro r7 M8 h
          refine zr_if_eq (tgt := 39) (pc' := 26) dX9_readWord_23 rfl rfl h.1 (fun hc => ?_) (fun hc => ?_)
          · have h := h.2.1 hc
            refine zr_aload_n (pc' := 40) (i := 0) dX9_readWord_39 rfl rfl rfl ?_
            refine zr_bipush (pc' := 42) dX9_readWord_40 rfl rfl ?_
            refine zr_put (pc' := 45) dX9_readWord_42 rfl ps_2 kd_2 fl_X9_35 kc_9 rfl nf_2_4 rfl trivial (fun M9 hM1 => ?_)
            have h := h M9 hM1
            refine zr_iconst (pc' := 46) dX9_readWord_45 rfl ?_
            refine zr_istore_n (pc' := 47) (i := 1) (al' := [(1, .inl 0), (0, .inr (.inr 2))]) dX9_readWord_46 rfl rfl (by decide) rfl ?_
            refine zr_iconst (pc' := 48) dX9_readWord_47 rfl ?_
            refine zr_istore_n (pc' := 49) (i := 2) (al' := [(2, .inl 0), (1, .inl 0), (0, .inr (.inr 2))]) dX9_readWord_48 rfl rfl (by decide) rfl ?_
            refine zr_iconst (pc' := 50) dX9_readWord_49 rfl ?_
            refine zr_istore_n (pc' := 51) (i := 3) (al' := [(3, .inl 0), (2, .inl 0), (1, .inl 0), (0, .inr (.inr 2))]) dX9_readWord_50 rfl rfl (by decide) rfl ?_
            obtain ⟨n', hn, h⟩ := h
            exact zn_al ((ih n' hn).2 _ _ _ _ h) ⟨rfl, rfl, rfl, rfl, trivial⟩
          · have h := h.2.2 hc
            refine zr_aload_n (pc' := 27) (i := 0) dX9_readWord_26 rfl rfl rfl ?_
            refine zr_dup (pc' := 28) dX9_readWord_27 rfl rfl ?_
            refine zr_get (pc' := 31) dX9_readWord_28 rfl ps_2 kd_2 fl_X9_29 kc_9 (gv_2_3 _) ?_
            refine zr_iconst (pc' := 32) dX9_readWord_31 rfl ?_
            refine zr_iadd (pc' := 33) dX9_readWord_32 rfl ?_
            refine zr_put (pc' := 36) dX9_readWord_33 rfl ps_2 kd_2 fl_X9_29 kc_9 rfl nf_2_3 rfl trivial (fun M10 hM1 => ?_)
            have h := h M10 hM1
            refine zr_goto (pc' := 0) dX9_readWord_36 rfl ?_
            obtain ⟨n', hn, h⟩ := h
            exact zn_al ((ih n' hn).1  _ h) ⟨rfl, trivial⟩
      · intro l1 l2 l3 M h
        have h := h51 n l1 l2 l3 M h
        refine zr_iload_n (pc' := 52) (i := 3) dX9_readWord_51 rfl rfl rfl ?_
        refine zr_ldcS (pc' := 54) dX9_readWord_52 rfl rfl ?_
        refine zn_slen (pc' := 57) (st := [.inl l3]) dX9_readWord_54 rfl cvs_X9_56 ⟨rfl, rfl, by decide, by decide⟩ (Nat.le_of_ble_eq_true rfl) ?_
        refine zr_icmp_ge (tgt := 98) (pc' := 60) dX9_readWord_57 rfl rfl h.1 (zRd rfl) (fun hc => ?_) (fun hc => ?_)
        · have h := h.2.1 hc
          exact zr_return (x := 0) dX9_readWord_98 rfl (Nat.le_refl _) (Nat.le_refl _) (And.intro rfl h)
        · have h := h.2.2 hc
          refine zr_ldcS (pc' := 62) dX9_readWord_60 rfl rfl ?_
          refine zr_iload_n (pc' := 63) (i := 3) dX9_readWord_62 rfl rfl rfl ?_
          refine zn_schr (pc' := 66) (st := []) dX9_readWord_63 rfl cvs_X9_62 ⟨rfl, rfl, by decide, by decide⟩ (Nat.le_of_ble_eq_true rfl) h.1 ?_
          have h := h.2
          refine zr_bipush (pc' := 68) dX9_readWord_66 rfl rfl ?_
          refine zr_icmp_ne (tgt := 92) (pc' := 71) dX9_readWord_68 rfl rfl h.1 (zRd rfl) (fun hc => ?_) (fun hc => ?_)
          · have h := h.2.1 hc
            refine zr_iinc (pc' := 95) (al' := [(3, .inl (l3 + 1)), (0, .inr (.inr 2)), (1, .inl l1), (2, .inl l2)]) dX9_readWord_92 rfl rfl (by decide) rfl ?_
            refine zr_goto (pc' := 51) dX9_readWord_95 rfl ?_
            obtain ⟨n', hn, h⟩ := h
            exact zn_al ((ih n' hn).2 _ _ _ _ h) ⟨rfl, rfl, rfl, rfl, trivial⟩
          · have h := h.2.2 hc
            refine zr_aload_n (pc' := 72) (i := 0) dX9_readWord_71 rfl rfl rfl ?_
            refine zr_iload_n (pc' := 73) (i := 2) dX9_readWord_72 rfl rfl rfl ?_
            refine zr_iload_n (pc' := 74) (i := 3) dX9_readWord_73 rfl rfl rfl ?_
            refine zn_callV (pc' := 77) (args := [.inl l2, .inl l3]) (st := []) (st' := fun r11 => [.inl r11]) dX9_readWord_74 rfl cv_X9_66 ⟨rfl, rfl, by decide, by decide⟩ rfl ps_2 kd_2 rfl rfl (Nat.le_of_ble_eq_true rfl) (fun _ => rfl) h ?_
            intro r11 M12 h
            refine zr_if_eq (tgt := 85) (pc' := 80) dX9_readWord_77 rfl rfl h.1 (fun hc => ?_) (fun hc => ?_)
            · have h := h.2.1 hc
              refine zr_iinc (pc' := 88) (al' := [(1, .inl (l1 + 1)), (0, .inr (.inr 2)), (2, .inl l2), (3, .inl l3)]) dX9_readWord_85 rfl rfl (by decide) rfl ?_
              refine zr_iload_n (pc' := 89) (i := 3) dX9_readWord_88 rfl rfl rfl ?_
              refine zr_iconst (pc' := 90) dX9_readWord_89 rfl ?_
              refine zr_iadd (pc' := 91) dX9_readWord_90 rfl ?_
              refine zr_istore_n (pc' := 92) (i := 2) (al' := [(2, .inl (l3 + 1)), (1, .inl (l1 + 1)), (0, .inr (.inr 2)), (3, .inl l3)]) dX9_readWord_91 rfl rfl (by decide) rfl ?_
              refine zr_iinc (pc' := 95) (al' := [(3, .inl (l3 + 1)), (2, .inl (l3 + 1)), (1, .inl (l1 + 1)), (0, .inr (.inr 2))]) dX9_readWord_92 rfl rfl (by decide) rfl ?_
              refine zr_goto (pc' := 51) dX9_readWord_95 rfl ?_
              obtain ⟨n', hn, h⟩ := h
              exact zn_al ((ih n' hn).2 _ _ _ _ h) ⟨rfl, rfl, rfl, rfl, trivial⟩
            · have h := h.2.2 hc
              refine zr_aload_n (pc' := 81) (i := 0) dX9_readWord_80 rfl rfl rfl ?_
              refine zr_iload_n (pc' := 82) (i := 1) dX9_readWord_81 rfl rfl rfl ?_
              refine zr_put (pc' := 85) dX9_readWord_82 rfl ps_2 kd_2 fl_X9_35 kc_9 rfl nf_2_4 rfl trivial (fun M13 hM1 => ?_)
              have h := h M13 hM1
              refine zr_iinc (pc' := 88) (al' := [(1, .inl (l1 + 1)), (0, .inr (.inr 2)), (2, .inl l2), (3, .inl l3)]) dX9_readWord_85 rfl rfl (by decide) rfl ?_
              refine zr_iload_n (pc' := 89) (i := 3) dX9_readWord_88 rfl rfl rfl ?_
              refine zr_iconst (pc' := 90) dX9_readWord_89 rfl ?_
              refine zr_iadd (pc' := 91) dX9_readWord_90 rfl ?_
              refine zr_istore_n (pc' := 92) (i := 2) (al' := [(2, .inl (l3 + 1)), (1, .inl (l1 + 1)), (0, .inr (.inr 2)), (3, .inl l3)]) dX9_readWord_91 rfl rfl (by decide) rfl ?_
              refine zr_iinc (pc' := 95) (al' := [(3, .inl (l3 + 1)), (2, .inl (l3 + 1)), (1, .inl (l1 + 1)), (0, .inr (.inr 2))]) dX9_readWord_92 rfl rfl (by decide) rfl ?_
              refine zr_goto (pc' := 51) dX9_readWord_95 rfl ?_
              obtain ⟨n', hn, h⟩ := h
              exact zn_al ((ih n' hn).2 _ _ _ _ h) ⟨rfl, rfl, rfl, rfl, trivial⟩
  refine zP_of (by decide +kernel) rfl (Nat.le_of_ble_eq_true rfl) ?_
  show zA E zNN (0, 0) mX9_readWord 0 [(0, .inr (.inr 2))] [] M (zQ Q)
  refine zr_aload_n (pc' := 1) (i := 0) dX9_readWord_0 rfl rfl rfl ?_
  refine zr_get (pc' := 4) dX9_readWord_1 rfl ps_2 kd_2 fl_X9_29 kc_9 (gv_2_3 _) ?_
  refine zr_aload_n (pc' := 5) (i := 0) dX9_readWord_4 rfl rfl rfl ?_
  refine zr_get (pc' := 8) dX9_readWord_5 rfl ps_2 kd_2 fl_X9_26 kc_9 (gv_2_2 _) ?_
  refine zr_icmp_ge (tgt := 39) (pc' := 11) dX9_readWord_8 rfl rfl h.1.1 h.1.2 (fun hc => ?_) (fun hc => ?_)
  · have h := h.2.1 hc
    refine zr_aload_n (pc' := 40) (i := 0) dX9_readWord_39 rfl rfl rfl ?_
    refine zr_bipush (pc' := 42) dX9_readWord_40 rfl rfl ?_
    refine zr_put (pc' := 45) dX9_readWord_42 rfl ps_2 kd_2 fl_X9_35 kc_9 rfl nf_2_4 rfl trivial (fun M1 hM1 => ?_)
    have h := h M1 hM1
    refine zr_iconst (pc' := 46) dX9_readWord_45 rfl ?_
    refine zr_istore_n (pc' := 47) (i := 1) (al' := [(1, .inl 0), (0, .inr (.inr 2))]) dX9_readWord_46 rfl rfl (by decide) rfl ?_
    refine zr_iconst (pc' := 48) dX9_readWord_47 rfl ?_
    refine zr_istore_n (pc' := 49) (i := 2) (al' := [(2, .inl 0), (1, .inl 0), (0, .inr (.inr 2))]) dX9_readWord_48 rfl rfl (by decide) rfl ?_
    refine zr_iconst (pc' := 50) dX9_readWord_49 rfl ?_
    refine zr_istore_n (pc' := 51) (i := 3) (al' := [(3, .inl 0), (2, .inl 0), (1, .inl 0), (0, .inr (.inr 2))]) dX9_readWord_50 rfl rfl (by decide) rfl ?_
    obtain ⟨n', h⟩ := h
    exact zn_al ((key n').2 _ _ _ _ h) ⟨rfl, rfl, rfl, rfl, trivial⟩
  · have h := h.2.2 hc
    refine zr_aload_n (pc' := 12) (i := 0) dX9_readWord_11 rfl rfl rfl ?_
    refine zr_get (pc' := 15) dX9_readWord_12 rfl ps_2 kd_2 fl_X9_9 kc_9 (gv_2_0 _) ?_
    refine zr_aload_n (pc' := 16) (i := 0) dX9_readWord_15 rfl rfl rfl ?_
    refine zr_get (pc' := 19) dX9_readWord_16 rfl ps_2 kd_2 fl_X9_29 kc_9 (gv_2_3 _) ?_
    refine zr_iald (pc' := 20) dX9_readWord_19 rfl ps_3 kd_3 (by decide) h.1.1 h.1.2 ?_
    have h := h.2
    refine zn_callS (pc' := 23) (args := [.inl (M 3 ((M 2 3).toNat))]) (st := []) (st' := fun r2 => [.inl r2]) dX9_readWord_20 rfl cs_X9_38 ⟨rfl, rfl, by decide, by decide⟩ rfl rfl rfl (Nat.le_of_ble_eq_true rfl) (fun _ => rfl) h ?_
    intro r2 M3 h
    refine zr_if_eq (tgt := 39) (pc' := 26) dX9_readWord_23 rfl rfl h.1 (fun hc => ?_) (fun hc => ?_)
    · have h := h.2.1 hc
      refine zr_aload_n (pc' := 40) (i := 0) dX9_readWord_39 rfl rfl rfl ?_
      refine zr_bipush (pc' := 42) dX9_readWord_40 rfl rfl ?_
      refine zr_put (pc' := 45) dX9_readWord_42 rfl ps_2 kd_2 fl_X9_35 kc_9 rfl nf_2_4 rfl trivial (fun M4 hM1 => ?_)
      have h := h M4 hM1
      refine zr_iconst (pc' := 46) dX9_readWord_45 rfl ?_
      refine zr_istore_n (pc' := 47) (i := 1) (al' := [(1, .inl 0), (0, .inr (.inr 2))]) dX9_readWord_46 rfl rfl (by decide) rfl ?_
      refine zr_iconst (pc' := 48) dX9_readWord_47 rfl ?_
      refine zr_istore_n (pc' := 49) (i := 2) (al' := [(2, .inl 0), (1, .inl 0), (0, .inr (.inr 2))]) dX9_readWord_48 rfl rfl (by decide) rfl ?_
      refine zr_iconst (pc' := 50) dX9_readWord_49 rfl ?_
      refine zr_istore_n (pc' := 51) (i := 3) (al' := [(3, .inl 0), (2, .inl 0), (1, .inl 0), (0, .inr (.inr 2))]) dX9_readWord_50 rfl rfl (by decide) rfl ?_
      obtain ⟨n', h⟩ := h
      exact zn_al ((key n').2 _ _ _ _ h) ⟨rfl, rfl, rfl, rfl, trivial⟩
    · have h := h.2.2 hc
      refine zr_aload_n (pc' := 27) (i := 0) dX9_readWord_26 rfl rfl rfl ?_
      refine zr_dup (pc' := 28) dX9_readWord_27 rfl rfl ?_
      refine zr_get (pc' := 31) dX9_readWord_28 rfl ps_2 kd_2 fl_X9_29 kc_9 (gv_2_3 _) ?_
      refine zr_iconst (pc' := 32) dX9_readWord_31 rfl ?_
      refine zr_iadd (pc' := 33) dX9_readWord_32 rfl ?_
      refine zr_put (pc' := 36) dX9_readWord_33 rfl ps_2 kd_2 fl_X9_29 kc_9 rfl nf_2_3 rfl trivial (fun M5 hM1 => ?_)
      have h := h M5 hM1
      refine zr_goto (pc' := 0) dX9_readWord_36 rfl ?_
      obtain ⟨n', h⟩ := h
      exact zn_al ((key n').1  _ h) ⟨rfl, trivial⟩
set_option maxRecDepth 20000 in
theorem vcX9_isWordAt {E : zE} {M : zM} {Q : Int → zM → Prop} (l1 l2 : Int) (I19 : Nat → Int → Int → Int → zM → Prop)
    (h : ((zR (l2 - l1) ∧ zR ((M 2 3) - (M 2 5))) ∧ (((l2 - l1) = ((M 2 3) - (M 2 5)) → ∃ n', I19 n' l1 l2 l1 M) ∧ (¬ (l2 - l1) = ((M 2 3) - (M 2 5)) → Q 0 M))))
    (h19 : ∀ (n : Nat) (l1 l2 l3 : Int) (M : zM), I19 n l1 l2 l3 M → ((zR l3 ∧ zR l2) ∧ ((l2 ≤ l3 → Q 1 M) ∧ (l3 < l2 → (0 ≤ l3 ∧ l3 < 77) ∧ (0 ≤ ((M 2 5) + l3) - l1 ∧ ((M 2 5) + l3) - l1 < 500) ∧ ((zR (zWin.getD l3.toNat 0) ∧ zR (M 3 ((((M 2 5) + l3) - l1).toNat))) ∧ (((zWin.getD l3.toNat 0) = (M 3 ((((M 2 5) + l3) - l1).toNat)) → ∃ n', n' < n ∧ I19 n' l1 l2 (l3 + 1) M) ∧ (¬ (zWin.getD l3.toNat 0) = (M 3 ((((M 2 5) + l3) - l1).toNat)) → Q 0 M)))))))
    : zP E mX9_isWordAt [.inr (.inr 2), .inl l1, .inl l2] M Q := by
  have key : ∀ n : Nat, (∀ (l1 l2 l3 : Int) (M : zM), I19 n l1 l2 l3 M → zA E zNN (0, 0) mX9_isWordAt 19 [(0, .inr (.inr 2)), (1, .inl l1), (2, .inl l2), (3, .inl l3)] [] M (zQ Q)) := by
    intro n
    induction n using Nat.strongRecOn with
    | ind n ih =>
      intro l1 l2 l3 M h
      have h := h19 n l1 l2 l3 M h
      refine zr_iload_n (pc' := 20) (i := 3) dX9_isWordAt_19 rfl rfl rfl ?_
      refine zr_iload_n (pc' := 21) (i := 2) dX9_isWordAt_20 rfl rfl rfl ?_
      refine zr_icmp_ge (tgt := 54) (pc' := 24) dX9_isWordAt_21 rfl rfl h.1.1 h.1.2 (fun hc => ?_) (fun hc => ?_)
      · have h := h.2.1 hc
        refine zr_iconst (pc' := 55) dX9_isWordAt_54 rfl ?_
        exact zr_ireturn dX9_isWordAt_55 rfl rfl (Or.inr rfl) (Nat.le_refl _) (Nat.le_refl _) (And.intro rfl h)
      · have h := h.2.2 hc
        refine zr_ldcS (pc' := 26) dX9_isWordAt_24 rfl rfl ?_
        refine zr_iload_n (pc' := 27) (i := 3) dX9_isWordAt_26 rfl rfl rfl ?_
        refine zn_schr (pc' := 30) (st := []) dX9_isWordAt_27 rfl cvs_X9_62 ⟨rfl, rfl, by decide, by decide⟩ (Nat.le_of_ble_eq_true rfl) h.1 ?_
        have h := h.2
        refine zr_aload_n (pc' := 31) (i := 0) dX9_isWordAt_30 rfl rfl rfl ?_
        refine zr_get (pc' := 34) dX9_isWordAt_31 rfl ps_2 kd_2 fl_X9_9 kc_9 (gv_2_0 _) ?_
        refine zr_aload_n (pc' := 35) (i := 0) dX9_isWordAt_34 rfl rfl rfl ?_
        refine zr_get (pc' := 38) dX9_isWordAt_35 rfl ps_2 kd_2 fl_X9_32 kc_9 (gv_2_5 _) ?_
        refine zr_iload_n (pc' := 39) (i := 3) dX9_isWordAt_38 rfl rfl rfl ?_
        refine zr_iadd (pc' := 40) dX9_isWordAt_39 rfl ?_
        refine zr_iload_n (pc' := 41) (i := 1) dX9_isWordAt_40 rfl rfl rfl ?_
        refine zr_isub (pc' := 42) dX9_isWordAt_41 rfl ?_
        refine zr_iald (pc' := 43) dX9_isWordAt_42 rfl ps_3 kd_3 (by decide) h.1.1 h.1.2 ?_
        have h := h.2
        refine zr_icmp_eq (tgt := 48) (pc' := 46) dX9_isWordAt_43 rfl rfl h.1.1 h.1.2 (fun hc => ?_) (fun hc => ?_)
        · have h := h.2.1 hc
          refine zr_iinc (pc' := 51) (al' := [(3, .inl (l3 + 1)), (0, .inr (.inr 2)), (1, .inl l1), (2, .inl l2)]) dX9_isWordAt_48 rfl rfl (by decide) rfl ?_
          refine zr_goto (pc' := 19) dX9_isWordAt_51 rfl ?_
          obtain ⟨n', hn, h⟩ := h
          exact zn_al ((ih n' hn) _ _ _ _ h) ⟨rfl, rfl, rfl, rfl, trivial⟩
        · have h := h.2.2 hc
          refine zr_iconst (pc' := 47) dX9_isWordAt_46 rfl ?_
          exact zr_ireturn dX9_isWordAt_47 rfl rfl (Or.inl rfl) (Nat.le_refl _) (Nat.le_refl _) (And.intro rfl h)
  refine zP_of (by decide +kernel) rfl (Nat.le_of_ble_eq_true rfl) ?_
  show zA E zNN (0, 0) mX9_isWordAt 0 [(0, .inr (.inr 2)), (1, .inl l1), (2, .inl l2)] [] M (zQ Q)
  refine zr_iload_n (pc' := 1) (i := 2) dX9_isWordAt_0 rfl rfl rfl ?_
  refine zr_iload_n (pc' := 2) (i := 1) dX9_isWordAt_1 rfl rfl rfl ?_
  refine zr_isub (pc' := 3) dX9_isWordAt_2 rfl ?_
  refine zr_aload_n (pc' := 4) (i := 0) dX9_isWordAt_3 rfl rfl rfl ?_
  refine zr_get (pc' := 7) dX9_isWordAt_4 rfl ps_2 kd_2 fl_X9_29 kc_9 (gv_2_3 _) ?_
  refine zr_aload_n (pc' := 8) (i := 0) dX9_isWordAt_7 rfl rfl rfl ?_
  refine zr_get (pc' := 11) dX9_isWordAt_8 rfl ps_2 kd_2 fl_X9_32 kc_9 (gv_2_5 _) ?_
  refine zr_isub (pc' := 12) dX9_isWordAt_11 rfl ?_
  refine zr_icmp_eq (tgt := 17) (pc' := 15) dX9_isWordAt_12 rfl rfl h.1.1 h.1.2 (fun hc => ?_) (fun hc => ?_)
  · have h := h.2.1 hc
    refine zr_iload_n (pc' := 18) (i := 1) dX9_isWordAt_17 rfl rfl rfl ?_
    refine zr_istore_n (pc' := 19) (i := 3) (al' := [(3, .inl l1), (0, .inr (.inr 2)), (1, .inl l1), (2, .inl l2)]) dX9_isWordAt_18 rfl rfl (by decide) rfl ?_
    obtain ⟨n', h⟩ := h
    exact zn_al ((key n') _ _ _ _ h) ⟨rfl, rfl, rfl, rfl, trivial⟩
  · have h := h.2.2 hc
    refine zr_iconst (pc' := 16) dX9_isWordAt_15 rfl ?_
    exact zr_ireturn dX9_isWordAt_16 rfl rfl (Or.inl rfl) (Nat.le_refl _) (Nat.le_refl _) (And.intro rfl h)
set_option maxRecDepth 20000 in
theorem vcX9_readNumber {E : zE} {M : zM} {Q : Int → zM → Prop} (I11 : Nat → zM → Prop)
    (h : (∀ M1, M1 = zup M 2 4 16 → (∀ M2, M2 = zup M1 2 6 0 → ∃ n', I11 n'  M2)))
    (h11 : ∀ (n : Nat) (M : zM), I11 n  M → ((zR (M 2 3) ∧ zR (M 2 2)) ∧ (((M 2 2) ≤ (M 2 3) → Q 0 M) ∧ ((M 2 3) < (M 2 2) → (0 ≤ M 2 3 ∧ M 2 3 < 500) ∧ (zP E mX9_isDigit [.inl (M 3 ((M 2 3).toNat))] M (fun r3 M4 => ((zR r3) ∧ ((r3 = 0 → Q 0 M4) ∧ (¬ r3 = 0 → (0 ≤ M4 2 3 ∧ M4 2 3 < 500) ∧ (zR ((((M4 2 6) * 10) + (M4 3 ((M4 2 3).toNat))) - 48)) ∧ (∀ M5, M5 = zup M4 2 6 (if ((((M4 2 6) * 10) + (M4 3 ((M4 2 3).toNat))) - 48) < 1000000 then ((((M4 2 6) * 10) + (M4 3 ((M4 2 3).toNat))) - 48) else 1000000) → (∀ M6, M6 = zup M5 2 3 ((M5 2 3) + 1) → ∃ n', n' < n ∧ I11 n'  M6)))))))))))
    : zP E mX9_readNumber [.inr (.inr 2)] M Q := by
  have key : ∀ n : Nat, (∀ (M : zM), I11 n  M → zA E zNN (0, 0) mX9_readNumber 11 [(0, .inr (.inr 2))] [] M (zQ Q)) := by
    intro n
    induction n using Nat.strongRecOn with
    | ind n ih =>
      intro  M h
      have h := h11 n  M h
      refine zr_aload_n (pc' := 12) (i := 0) dX9_readNumber_11 rfl rfl rfl ?_
      refine zr_get (pc' := 15) dX9_readNumber_12 rfl ps_2 kd_2 fl_X9_29 kc_9 (gv_2_3 _) ?_
      refine zr_aload_n (pc' := 16) (i := 0) dX9_readNumber_15 rfl rfl rfl ?_
      refine zr_get (pc' := 19) dX9_readNumber_16 rfl ps_2 kd_2 fl_X9_26 kc_9 (gv_2_2 _) ?_
      refine zr_icmp_ge (tgt := 79) (pc' := 22) dX9_readNumber_19 rfl rfl h.1.1 h.1.2 (fun hc => ?_) (fun hc => ?_)
      · have h := h.2.1 hc
        exact zr_return (x := 0) dX9_readNumber_79 rfl (Nat.le_refl _) (Nat.le_refl _) (And.intro rfl h)
      · have h := h.2.2 hc
        refine zr_aload_n (pc' := 23) (i := 0) dX9_readNumber_22 rfl rfl rfl ?_
        refine zr_get (pc' := 26) dX9_readNumber_23 rfl ps_2 kd_2 fl_X9_9 kc_9 (gv_2_0 _) ?_
        refine zr_aload_n (pc' := 27) (i := 0) dX9_readNumber_26 rfl rfl rfl ?_
        refine zr_get (pc' := 30) dX9_readNumber_27 rfl ps_2 kd_2 fl_X9_29 kc_9 (gv_2_3 _) ?_
        refine zr_iald (pc' := 31) dX9_readNumber_30 rfl ps_3 kd_3 (by decide) h.1.1 h.1.2 ?_
        have h := h.2
        refine zn_callS (pc' := 34) (args := [.inl (M 3 ((M 2 3).toNat))]) (st := []) (st' := fun r3 => [.inl r3]) dX9_readNumber_31 rfl cs_X9_45 ⟨rfl, rfl, by decide, by decide⟩ rfl rfl rfl (Nat.le_of_ble_eq_true rfl) (fun _ => rfl) h ?_
        intro r3 M4 h
        refine zr_if_eq (tgt := 79) (pc' := 37) dX9_readNumber_34 rfl rfl h.1 (fun hc => ?_) (fun hc => ?_)
        · have h := h.2.1 hc
          exact zr_return (x := 0) dX9_readNumber_79 rfl (Nat.le_refl _) (Nat.le_refl _) (And.intro rfl h)
        · have h := h.2.2 hc
          refine zr_aload_n (pc' := 38) (i := 0) dX9_readNumber_37 rfl rfl rfl ?_
          refine zr_ldc (pc' := 40) (x := 1000000) dX9_readNumber_38 rfl ci_X9_73 ?_
          refine zr_aload_n (pc' := 41) (i := 0) dX9_readNumber_40 rfl rfl rfl ?_
          refine zr_get (pc' := 44) dX9_readNumber_41 rfl ps_2 kd_2 fl_X9_70 kc_9 (gv_2_6 _) ?_
          refine zr_bipush (pc' := 46) dX9_readNumber_44 rfl rfl ?_
          refine zr_imul (pc' := 47) dX9_readNumber_46 rfl ?_
          refine zr_aload_n (pc' := 48) (i := 0) dX9_readNumber_47 rfl rfl rfl ?_
          refine zr_get (pc' := 51) dX9_readNumber_48 rfl ps_2 kd_2 fl_X9_9 kc_9 (gv_2_0 _) ?_
          refine zr_aload_n (pc' := 52) (i := 0) dX9_readNumber_51 rfl rfl rfl ?_
          refine zr_get (pc' := 55) dX9_readNumber_52 rfl ps_2 kd_2 fl_X9_29 kc_9 (gv_2_3 _) ?_
          refine zr_iald (pc' := 56) dX9_readNumber_55 rfl ps_3 kd_3 (by decide) h.1.1 h.1.2 ?_
          have h := h.2
          refine zr_iadd (pc' := 57) dX9_readNumber_56 rfl ?_
          refine zr_bipush (pc' := 59) dX9_readNumber_57 rfl rfl ?_
          refine zr_isub (pc' := 60) dX9_readNumber_59 rfl ?_
          refine zr_min (pc' := 63) dX9_readNumber_60 rfl ml_X9_17.1 ml_X9_17.2.1 ml_X9_17.2.2.1 ml_X9_17.2.2.2 (by decide) (Nat.le_of_ble_eq_true rfl) (Nat.zero_le _) (Nat.zero_le _) (zRd rfl) h.1 ?_
          have h := h.2
          refine zr_put (pc' := 66) dX9_readNumber_63 rfl ps_2 kd_2 fl_X9_70 kc_9 rfl nf_2_6 rfl trivial (fun M5 hM1 => ?_)
          have h := h M5 hM1
          refine zr_aload_n (pc' := 67) (i := 0) dX9_readNumber_66 rfl rfl rfl ?_
          refine zr_dup (pc' := 68) dX9_readNumber_67 rfl rfl ?_
          refine zr_get (pc' := 71) dX9_readNumber_68 rfl ps_2 kd_2 fl_X9_29 kc_9 (gv_2_3 _) ?_
          refine zr_iconst (pc' := 72) dX9_readNumber_71 rfl ?_
          refine zr_iadd (pc' := 73) dX9_readNumber_72 rfl ?_
          refine zr_put (pc' := 76) dX9_readNumber_73 rfl ps_2 kd_2 fl_X9_29 kc_9 rfl nf_2_3 rfl trivial (fun M6 hM1 => ?_)
          have h := h M6 hM1
          refine zr_goto (pc' := 11) dX9_readNumber_76 rfl ?_
          obtain ⟨n', hn, h⟩ := h
          exact zn_al ((ih n' hn)  _ h) ⟨rfl, trivial⟩
  refine zP_of (by decide +kernel) rfl (Nat.le_of_ble_eq_true rfl) ?_
  show zA E zNN (0, 0) mX9_readNumber 0 [(0, .inr (.inr 2))] [] M (zQ Q)
  refine zr_aload_n (pc' := 1) (i := 0) dX9_readNumber_0 rfl rfl rfl ?_
  refine zr_bipush (pc' := 3) dX9_readNumber_1 rfl rfl ?_
  refine zr_put (pc' := 6) dX9_readNumber_3 rfl ps_2 kd_2 fl_X9_35 kc_9 rfl nf_2_4 rfl trivial (fun M1 hM1 => ?_)
  have h := h M1 hM1
  refine zr_aload_n (pc' := 7) (i := 0) dX9_readNumber_6 rfl rfl rfl ?_
  refine zr_iconst (pc' := 8) dX9_readNumber_7 rfl ?_
  refine zr_put (pc' := 11) dX9_readNumber_8 rfl ps_2 kd_2 fl_X9_70 kc_9 rfl nf_2_6 rfl trivial (fun M2 hM1 => ?_)
  have h := h M2 hM1
  obtain ⟨n', h⟩ := h
  exact zn_al ((key n')  _ h) ⟨rfl, trivial⟩
set_option maxRecDepth 20000 in
theorem vcX9_readSign {E : zE} {M : zM} {Q : Int → zM → Prop}
    (h : (0 ≤ M 2 3 ∧ M 2 3 < 500) ∧ (∀ M1, M1 = zup M 2 3 ((M 2 3) + 1) → (zR (M 3 ((M 2 3).toNat)) ∧ (((M 3 ((M 2 3).toNat)) < 40 ∨ 62 < (M 3 ((M 2 3).toNat))) → (∀ M2, M2 = zup M1 2 4 33 → Q 0 M2)) ∧ ((M 3 ((M 2 3).toNat)) = 40 → (∀ M3, M3 = zup M1 2 4 18 → Q 0 M3)) ∧ ((M 3 ((M 2 3).toNat)) = 41 → (∀ M4, M4 = zup M1 2 4 19 → Q 0 M4)) ∧ ((M 3 ((M 2 3).toNat)) = 42 → (∀ M5, M5 = zup M1 2 4 23 → Q 0 M5)) ∧ ((M 3 ((M 2 3).toNat)) = 43 → (∀ M6, M6 = zup M1 2 4 21 → Q 0 M6)) ∧ ((M 3 ((M 2 3).toNat)) = 44 → (∀ M7, M7 = zup M1 2 4 20 → Q 0 M7)) ∧ ((M 3 ((M 2 3).toNat)) = 45 → (∀ M8, M8 = zup M1 2 4 22 → Q 0 M8)) ∧ ((M 3 ((M 2 3).toNat)) = 46 → (∀ M9, M9 = zup M1 2 4 33 → Q 0 M9)) ∧ ((M 3 ((M 2 3).toNat)) = 47 → (∀ M10, M10 = zup M1 2 4 24 → Q 0 M10)) ∧ ((M 3 ((M 2 3).toNat)) = 48 → (∀ M11, M11 = zup M1 2 4 33 → Q 0 M11)) ∧ ((M 3 ((M 2 3).toNat)) = 49 → (∀ M12, M12 = zup M1 2 4 33 → Q 0 M12)) ∧ ((M 3 ((M 2 3).toNat)) = 50 → (∀ M13, M13 = zup M1 2 4 33 → Q 0 M13)) ∧ ((M 3 ((M 2 3).toNat)) = 51 → (∀ M14, M14 = zup M1 2 4 33 → Q 0 M14)) ∧ ((M 3 ((M 2 3).toNat)) = 52 → (∀ M15, M15 = zup M1 2 4 33 → Q 0 M15)) ∧ ((M 3 ((M 2 3).toNat)) = 53 → (∀ M16, M16 = zup M1 2 4 33 → Q 0 M16)) ∧ ((M 3 ((M 2 3).toNat)) = 54 → (∀ M17, M17 = zup M1 2 4 33 → Q 0 M17)) ∧ ((M 3 ((M 2 3).toNat)) = 55 → (∀ M18, M18 = zup M1 2 4 33 → Q 0 M18)) ∧ ((M 3 ((M 2 3).toNat)) = 56 → (∀ M19, M19 = zup M1 2 4 33 → Q 0 M19)) ∧ ((M 3 ((M 2 3).toNat)) = 57 → (∀ M20, M20 = zup M1 2 4 33 → Q 0 M20)) ∧ ((M 3 ((M 2 3).toNat)) = 58 → (∀ M21, M21 = zup M1 2 4 33 → Q 0 M21)) ∧ ((M 3 ((M 2 3).toNat)) = 59 → (∀ M22, M22 = zup M1 2 4 17 → Q 0 M22)) ∧ ((M 3 ((M 2 3).toNat)) = 60 → (zP E mX9_takes [.inr (.inr 2), .inl 61] M1 (fun r23 M24 => ((zR r23) ∧ ((r23 = 0 → (zP E mX9_takes [.inr (.inr 2), .inl 62] M24 (fun r25 M26 => ((zR r25) ∧ ((r25 = 0 → (∀ M27, M27 = zup M26 2 4 25 → Q 0 M27)) ∧ (¬ r25 = 0 → (∀ M28, M28 = zup M26 2 4 28 → Q 0 M28))))))) ∧ (¬ r23 = 0 → (∀ M29, M29 = zup M24 2 4 26 → Q 0 M29))))))) ∧ ((M 3 ((M 2 3).toNat)) = 61 → (∀ M30, M30 = zup M1 2 4 27 → Q 0 M30)) ∧ ((M 3 ((M 2 3).toNat)) = 62 → (zP E mX9_takes [.inr (.inr 2), .inl 61] M1 (fun r31 M32 => ((zR r31) ∧ ((r31 = 0 → (∀ M33, M33 = zup M32 2 4 30 → Q 0 M33)) ∧ (¬ r31 = 0 → (∀ M34, M34 = zup M32 2 4 29 → Q 0 M34))))))))))
    : zP E mX9_readSign [.inr (.inr 2)] M Q := by
  refine zP_of (by decide +kernel) rfl (Nat.le_of_ble_eq_true rfl) ?_
  show zA E zNN (0, 0) mX9_readSign 0 [(0, .inr (.inr 2))] [] M (zQ Q)
  refine zr_aload_n (pc' := 1) (i := 0) dX9_readSign_0 rfl rfl rfl ?_
  refine zr_get (pc' := 4) dX9_readSign_1 rfl ps_2 kd_2 fl_X9_9 kc_9 (gv_2_0 _) ?_
  refine zr_aload_n (pc' := 5) (i := 0) dX9_readSign_4 rfl rfl rfl ?_
  refine zr_get (pc' := 8) dX9_readSign_5 rfl ps_2 kd_2 fl_X9_29 kc_9 (gv_2_3 _) ?_
  refine zr_iald (pc' := 9) dX9_readSign_8 rfl ps_3 kd_3 (by decide) h.1.1 h.1.2 ?_
  have h := h.2
  refine zr_istore_n (pc' := 10) (i := 1) (al' := [(1, .inl (M 3 ((M 2 3).toNat))), (0, .inr (.inr 2))]) dX9_readSign_9 rfl rfl (by decide) rfl ?_
  refine zr_aload_n (pc' := 11) (i := 0) dX9_readSign_10 rfl rfl rfl ?_
  refine zr_dup (pc' := 12) dX9_readSign_11 rfl rfl ?_
  refine zr_get (pc' := 15) dX9_readSign_12 rfl ps_2 kd_2 fl_X9_29 kc_9 (gv_2_3 _) ?_
  refine zr_iconst (pc' := 16) dX9_readSign_15 rfl ?_
  refine zr_iadd (pc' := 17) dX9_readSign_16 rfl ?_
  refine zr_put (pc' := 20) dX9_readSign_17 rfl ps_2 kd_2 fl_X9_29 kc_9 rfl nf_2_3 rfl trivial (fun M1 hM1 => ?_)
  have h := h M1 hM1
  refine zr_iload_n (pc' := 21) (i := 1) dX9_readSign_20 rfl rfl rfl ?_
  by_cases hsw : (M 3 ((M 2 3).toNat)) < 40 ∨ 62 < (M 3 ((M 2 3).toNat))
  · refine zr_tableOut (tgt := 269) dX9_readSign_21 h.1 hsw rfl ?_
    have h := h.2.1 hsw
    refine zr_aload_n (pc' := 270) (i := 0) dX9_readSign_269 rfl rfl rfl ?_
    refine zr_bipush (pc' := 272) dX9_readSign_270 rfl rfl ?_
    refine zr_put (pc' := 275) dX9_readSign_272 rfl ps_2 kd_2 fl_X9_35 kc_9 rfl nf_2_4 rfl trivial (fun M2 hM1 => ?_)
    have h := h M2 hM1
    exact zr_return (x := 0) dX9_readSign_275 rfl (Nat.le_refl _) (Nat.le_refl _) (And.intro rfl h)
  · have hsx : (M 3 ((M 2 3).toNat)) = 40 ∨ (M 3 ((M 2 3).toNat)) = 41 ∨ (M 3 ((M 2 3).toNat)) = 42 ∨ (M 3 ((M 2 3).toNat)) = 43 ∨ (M 3 ((M 2 3).toNat)) = 44 ∨ (M 3 ((M 2 3).toNat)) = 45 ∨ (M 3 ((M 2 3).toNat)) = 46 ∨ (M 3 ((M 2 3).toNat)) = 47 ∨ (M 3 ((M 2 3).toNat)) = 48 ∨ (M 3 ((M 2 3).toNat)) = 49 ∨ (M 3 ((M 2 3).toNat)) = 50 ∨ (M 3 ((M 2 3).toNat)) = 51 ∨ (M 3 ((M 2 3).toNat)) = 52 ∨ (M 3 ((M 2 3).toNat)) = 53 ∨ (M 3 ((M 2 3).toNat)) = 54 ∨ (M 3 ((M 2 3).toNat)) = 55 ∨ (M 3 ((M 2 3).toNat)) = 56 ∨ (M 3 ((M 2 3).toNat)) = 57 ∨ (M 3 ((M 2 3).toNat)) = 58 ∨ (M 3 ((M 2 3).toNat)) = 59 ∨ (M 3 ((M 2 3).toNat)) = 60 ∨ (M 3 ((M 2 3).toNat)) = 61 ∨ (M 3 ((M 2 3).toNat)) = 62 := by omega
    rcases hsx with hsx | hsx | hsx | hsx | hsx | hsx | hsx | hsx | hsx | hsx | hsx | hsx | hsx | hsx | hsx | hsx | hsx | hsx | hsx | hsx | hsx | hsx | hsx
    · refine zr_tableIn (off := 116) (tgt := 137) dX9_readSign_21 h.1 (by omega) (by omega) (by rw [hsx]; rfl) rfl ?_
      have h := h.2.2.1 hsx
      refine zr_aload_n (pc' := 138) (i := 0) dX9_readSign_137 rfl rfl rfl ?_
      refine zr_bipush (pc' := 140) dX9_readSign_138 rfl rfl ?_
      refine zr_put (pc' := 143) dX9_readSign_140 rfl ps_2 kd_2 fl_X9_35 kc_9 rfl nf_2_4 rfl trivial (fun M3 hM1 => ?_)
      have h := h M3 hM1
      refine zr_goto (pc' := 275) dX9_readSign_143 rfl ?_
      exact zr_return (x := 0) dX9_readSign_275 rfl (Nat.le_refl _) (Nat.le_refl _) (And.intro rfl h)
    · refine zr_tableIn (off := 125) (tgt := 146) dX9_readSign_21 h.1 (by omega) (by omega) (by rw [hsx]; rfl) rfl ?_
      have h := h.2.2.2.1 hsx
      refine zr_aload_n (pc' := 147) (i := 0) dX9_readSign_146 rfl rfl rfl ?_
      refine zr_bipush (pc' := 149) dX9_readSign_147 rfl rfl ?_
      refine zr_put (pc' := 152) dX9_readSign_149 rfl ps_2 kd_2 fl_X9_35 kc_9 rfl nf_2_4 rfl trivial (fun M4 hM1 => ?_)
      have h := h M4 hM1
      refine zr_goto (pc' := 275) dX9_readSign_152 rfl ?_
      exact zr_return (x := 0) dX9_readSign_275 rfl (Nat.le_refl _) (Nat.le_refl _) (And.intro rfl h)
    · refine zr_tableIn (off := 161) (tgt := 182) dX9_readSign_21 h.1 (by omega) (by omega) (by rw [hsx]; rfl) rfl ?_
      have h := h.2.2.2.2.1 hsx
      refine zr_aload_n (pc' := 183) (i := 0) dX9_readSign_182 rfl rfl rfl ?_
      refine zr_bipush (pc' := 185) dX9_readSign_183 rfl rfl ?_
      refine zr_put (pc' := 188) dX9_readSign_185 rfl ps_2 kd_2 fl_X9_35 kc_9 rfl nf_2_4 rfl trivial (fun M5 hM1 => ?_)
      have h := h M5 hM1
      refine zr_goto (pc' := 275) dX9_readSign_188 rfl ?_
      exact zr_return (x := 0) dX9_readSign_275 rfl (Nat.le_refl _) (Nat.le_refl _) (And.intro rfl h)
    · refine zr_tableIn (off := 143) (tgt := 164) dX9_readSign_21 h.1 (by omega) (by omega) (by rw [hsx]; rfl) rfl ?_
      have h := h.2.2.2.2.2.1 hsx
      refine zr_aload_n (pc' := 165) (i := 0) dX9_readSign_164 rfl rfl rfl ?_
      refine zr_bipush (pc' := 167) dX9_readSign_165 rfl rfl ?_
      refine zr_put (pc' := 170) dX9_readSign_167 rfl ps_2 kd_2 fl_X9_35 kc_9 rfl nf_2_4 rfl trivial (fun M6 hM1 => ?_)
      have h := h M6 hM1
      refine zr_goto (pc' := 275) dX9_readSign_170 rfl ?_
      exact zr_return (x := 0) dX9_readSign_275 rfl (Nat.le_refl _) (Nat.le_refl _) (And.intro rfl h)
    · refine zr_tableIn (off := 134) (tgt := 155) dX9_readSign_21 h.1 (by omega) (by omega) (by rw [hsx]; rfl) rfl ?_
      have h := h.2.2.2.2.2.2.1 hsx
      refine zr_aload_n (pc' := 156) (i := 0) dX9_readSign_155 rfl rfl rfl ?_
      refine zr_bipush (pc' := 158) dX9_readSign_156 rfl rfl ?_
      refine zr_put (pc' := 161) dX9_readSign_158 rfl ps_2 kd_2 fl_X9_35 kc_9 rfl nf_2_4 rfl trivial (fun M7 hM1 => ?_)
      have h := h M7 hM1
      refine zr_goto (pc' := 275) dX9_readSign_161 rfl ?_
      exact zr_return (x := 0) dX9_readSign_275 rfl (Nat.le_refl _) (Nat.le_refl _) (And.intro rfl h)
    · refine zr_tableIn (off := 152) (tgt := 173) dX9_readSign_21 h.1 (by omega) (by omega) (by rw [hsx]; rfl) rfl ?_
      have h := h.2.2.2.2.2.2.2.1 hsx
      refine zr_aload_n (pc' := 174) (i := 0) dX9_readSign_173 rfl rfl rfl ?_
      refine zr_bipush (pc' := 176) dX9_readSign_174 rfl rfl ?_
      refine zr_put (pc' := 179) dX9_readSign_176 rfl ps_2 kd_2 fl_X9_35 kc_9 rfl nf_2_4 rfl trivial (fun M8 hM1 => ?_)
      have h := h M8 hM1
      refine zr_goto (pc' := 275) dX9_readSign_179 rfl ?_
      exact zr_return (x := 0) dX9_readSign_275 rfl (Nat.le_refl _) (Nat.le_refl _) (And.intro rfl h)
    · refine zr_tableIn (off := 248) (tgt := 269) dX9_readSign_21 h.1 (by omega) (by omega) (by rw [hsx]; rfl) rfl ?_
      have h := h.2.2.2.2.2.2.2.2.1 hsx
      refine zr_aload_n (pc' := 270) (i := 0) dX9_readSign_269 rfl rfl rfl ?_
      refine zr_bipush (pc' := 272) dX9_readSign_270 rfl rfl ?_
      refine zr_put (pc' := 275) dX9_readSign_272 rfl ps_2 kd_2 fl_X9_35 kc_9 rfl nf_2_4 rfl trivial (fun M9 hM1 => ?_)
      have h := h M9 hM1
      exact zr_return (x := 0) dX9_readSign_275 rfl (Nat.le_refl _) (Nat.le_refl _) (And.intro rfl h)
    · refine zr_tableIn (off := 170) (tgt := 191) dX9_readSign_21 h.1 (by omega) (by omega) (by rw [hsx]; rfl) rfl ?_
      have h := h.2.2.2.2.2.2.2.2.2.1 hsx
      refine zr_aload_n (pc' := 192) (i := 0) dX9_readSign_191 rfl rfl rfl ?_
      refine zr_bipush (pc' := 194) dX9_readSign_192 rfl rfl ?_
      refine zr_put (pc' := 197) dX9_readSign_194 rfl ps_2 kd_2 fl_X9_35 kc_9 rfl nf_2_4 rfl trivial (fun M10 hM1 => ?_)
      have h := h M10 hM1
      refine zr_goto (pc' := 275) dX9_readSign_197 rfl ?_
      exact zr_return (x := 0) dX9_readSign_275 rfl (Nat.le_refl _) (Nat.le_refl _) (And.intro rfl h)
    · refine zr_tableIn (off := 248) (tgt := 269) dX9_readSign_21 h.1 (by omega) (by omega) (by rw [hsx]; rfl) rfl ?_
      have h := h.2.2.2.2.2.2.2.2.2.2.1 hsx
      refine zr_aload_n (pc' := 270) (i := 0) dX9_readSign_269 rfl rfl rfl ?_
      refine zr_bipush (pc' := 272) dX9_readSign_270 rfl rfl ?_
      refine zr_put (pc' := 275) dX9_readSign_272 rfl ps_2 kd_2 fl_X9_35 kc_9 rfl nf_2_4 rfl trivial (fun M11 hM1 => ?_)
      have h := h M11 hM1
      exact zr_return (x := 0) dX9_readSign_275 rfl (Nat.le_refl _) (Nat.le_refl _) (And.intro rfl h)
    · refine zr_tableIn (off := 248) (tgt := 269) dX9_readSign_21 h.1 (by omega) (by omega) (by rw [hsx]; rfl) rfl ?_
      have h := h.2.2.2.2.2.2.2.2.2.2.2.1 hsx
      refine zr_aload_n (pc' := 270) (i := 0) dX9_readSign_269 rfl rfl rfl ?_
      refine zr_bipush (pc' := 272) dX9_readSign_270 rfl rfl ?_
      refine zr_put (pc' := 275) dX9_readSign_272 rfl ps_2 kd_2 fl_X9_35 kc_9 rfl nf_2_4 rfl trivial (fun M12 hM1 => ?_)
      have h := h M12 hM1
      exact zr_return (x := 0) dX9_readSign_275 rfl (Nat.le_refl _) (Nat.le_refl _) (And.intro rfl h)
    · refine zr_tableIn (off := 248) (tgt := 269) dX9_readSign_21 h.1 (by omega) (by omega) (by rw [hsx]; rfl) rfl ?_
      have h := h.2.2.2.2.2.2.2.2.2.2.2.2.1 hsx
      refine zr_aload_n (pc' := 270) (i := 0) dX9_readSign_269 rfl rfl rfl ?_
      refine zr_bipush (pc' := 272) dX9_readSign_270 rfl rfl ?_
      refine zr_put (pc' := 275) dX9_readSign_272 rfl ps_2 kd_2 fl_X9_35 kc_9 rfl nf_2_4 rfl trivial (fun M13 hM1 => ?_)
      have h := h M13 hM1
      exact zr_return (x := 0) dX9_readSign_275 rfl (Nat.le_refl _) (Nat.le_refl _) (And.intro rfl h)
    · refine zr_tableIn (off := 248) (tgt := 269) dX9_readSign_21 h.1 (by omega) (by omega) (by rw [hsx]; rfl) rfl ?_
      have h := h.2.2.2.2.2.2.2.2.2.2.2.2.2.1 hsx
      refine zr_aload_n (pc' := 270) (i := 0) dX9_readSign_269 rfl rfl rfl ?_
      refine zr_bipush (pc' := 272) dX9_readSign_270 rfl rfl ?_
      refine zr_put (pc' := 275) dX9_readSign_272 rfl ps_2 kd_2 fl_X9_35 kc_9 rfl nf_2_4 rfl trivial (fun M14 hM1 => ?_)
      have h := h M14 hM1
      exact zr_return (x := 0) dX9_readSign_275 rfl (Nat.le_refl _) (Nat.le_refl _) (And.intro rfl h)
    · refine zr_tableIn (off := 248) (tgt := 269) dX9_readSign_21 h.1 (by omega) (by omega) (by rw [hsx]; rfl) rfl ?_
      have h := h.2.2.2.2.2.2.2.2.2.2.2.2.2.2.1 hsx
      refine zr_aload_n (pc' := 270) (i := 0) dX9_readSign_269 rfl rfl rfl ?_
      refine zr_bipush (pc' := 272) dX9_readSign_270 rfl rfl ?_
      refine zr_put (pc' := 275) dX9_readSign_272 rfl ps_2 kd_2 fl_X9_35 kc_9 rfl nf_2_4 rfl trivial (fun M15 hM1 => ?_)
      have h := h M15 hM1
      exact zr_return (x := 0) dX9_readSign_275 rfl (Nat.le_refl _) (Nat.le_refl _) (And.intro rfl h)
    · refine zr_tableIn (off := 248) (tgt := 269) dX9_readSign_21 h.1 (by omega) (by omega) (by rw [hsx]; rfl) rfl ?_
      have h := h.2.2.2.2.2.2.2.2.2.2.2.2.2.2.2.1 hsx
      refine zr_aload_n (pc' := 270) (i := 0) dX9_readSign_269 rfl rfl rfl ?_
      refine zr_bipush (pc' := 272) dX9_readSign_270 rfl rfl ?_
      refine zr_put (pc' := 275) dX9_readSign_272 rfl ps_2 kd_2 fl_X9_35 kc_9 rfl nf_2_4 rfl trivial (fun M16 hM1 => ?_)
      have h := h M16 hM1
      exact zr_return (x := 0) dX9_readSign_275 rfl (Nat.le_refl _) (Nat.le_refl _) (And.intro rfl h)
    · refine zr_tableIn (off := 248) (tgt := 269) dX9_readSign_21 h.1 (by omega) (by omega) (by rw [hsx]; rfl) rfl ?_
      have h := h.2.2.2.2.2.2.2.2.2.2.2.2.2.2.2.2.1 hsx
      refine zr_aload_n (pc' := 270) (i := 0) dX9_readSign_269 rfl rfl rfl ?_
      refine zr_bipush (pc' := 272) dX9_readSign_270 rfl rfl ?_
      refine zr_put (pc' := 275) dX9_readSign_272 rfl ps_2 kd_2 fl_X9_35 kc_9 rfl nf_2_4 rfl trivial (fun M17 hM1 => ?_)
      have h := h M17 hM1
      exact zr_return (x := 0) dX9_readSign_275 rfl (Nat.le_refl _) (Nat.le_refl _) (And.intro rfl h)
    · refine zr_tableIn (off := 248) (tgt := 269) dX9_readSign_21 h.1 (by omega) (by omega) (by rw [hsx]; rfl) rfl ?_
      have h := h.2.2.2.2.2.2.2.2.2.2.2.2.2.2.2.2.2.1 hsx
      refine zr_aload_n (pc' := 270) (i := 0) dX9_readSign_269 rfl rfl rfl ?_
      refine zr_bipush (pc' := 272) dX9_readSign_270 rfl rfl ?_
      refine zr_put (pc' := 275) dX9_readSign_272 rfl ps_2 kd_2 fl_X9_35 kc_9 rfl nf_2_4 rfl trivial (fun M18 hM1 => ?_)
      have h := h M18 hM1
      exact zr_return (x := 0) dX9_readSign_275 rfl (Nat.le_refl _) (Nat.le_refl _) (And.intro rfl h)
    · refine zr_tableIn (off := 248) (tgt := 269) dX9_readSign_21 h.1 (by omega) (by omega) (by rw [hsx]; rfl) rfl ?_
      have h := h.2.2.2.2.2.2.2.2.2.2.2.2.2.2.2.2.2.2.1 hsx
      refine zr_aload_n (pc' := 270) (i := 0) dX9_readSign_269 rfl rfl rfl ?_
      refine zr_bipush (pc' := 272) dX9_readSign_270 rfl rfl ?_
      refine zr_put (pc' := 275) dX9_readSign_272 rfl ps_2 kd_2 fl_X9_35 kc_9 rfl nf_2_4 rfl trivial (fun M19 hM1 => ?_)
      have h := h M19 hM1
      exact zr_return (x := 0) dX9_readSign_275 rfl (Nat.le_refl _) (Nat.le_refl _) (And.intro rfl h)
    · refine zr_tableIn (off := 248) (tgt := 269) dX9_readSign_21 h.1 (by omega) (by omega) (by rw [hsx]; rfl) rfl ?_
      have h := h.2.2.2.2.2.2.2.2.2.2.2.2.2.2.2.2.2.2.2.1 hsx
      refine zr_aload_n (pc' := 270) (i := 0) dX9_readSign_269 rfl rfl rfl ?_
      refine zr_bipush (pc' := 272) dX9_readSign_270 rfl rfl ?_
      refine zr_put (pc' := 275) dX9_readSign_272 rfl ps_2 kd_2 fl_X9_35 kc_9 rfl nf_2_4 rfl trivial (fun M20 hM1 => ?_)
      have h := h M20 hM1
      exact zr_return (x := 0) dX9_readSign_275 rfl (Nat.le_refl _) (Nat.le_refl _) (And.intro rfl h)
    · refine zr_tableIn (off := 248) (tgt := 269) dX9_readSign_21 h.1 (by omega) (by omega) (by rw [hsx]; rfl) rfl ?_
      have h := h.2.2.2.2.2.2.2.2.2.2.2.2.2.2.2.2.2.2.2.2.1 hsx
      refine zr_aload_n (pc' := 270) (i := 0) dX9_readSign_269 rfl rfl rfl ?_
      refine zr_bipush (pc' := 272) dX9_readSign_270 rfl rfl ?_
      refine zr_put (pc' := 275) dX9_readSign_272 rfl ps_2 kd_2 fl_X9_35 kc_9 rfl nf_2_4 rfl trivial (fun M21 hM1 => ?_)
      have h := h M21 hM1
      exact zr_return (x := 0) dX9_readSign_275 rfl (Nat.le_refl _) (Nat.le_refl _) (And.intro rfl h)
    · refine zr_tableIn (off := 107) (tgt := 128) dX9_readSign_21 h.1 (by omega) (by omega) (by rw [hsx]; rfl) rfl ?_
      have h := h.2.2.2.2.2.2.2.2.2.2.2.2.2.2.2.2.2.2.2.2.2.1 hsx
      refine zr_aload_n (pc' := 129) (i := 0) dX9_readSign_128 rfl rfl rfl ?_
      refine zr_bipush (pc' := 131) dX9_readSign_129 rfl rfl ?_
      refine zr_put (pc' := 134) dX9_readSign_131 rfl ps_2 kd_2 fl_X9_35 kc_9 rfl nf_2_4 rfl trivial (fun M22 hM1 => ?_)
      have h := h M22 hM1
      refine zr_goto (pc' := 275) dX9_readSign_134 rfl ?_
      exact zr_return (x := 0) dX9_readSign_275 rfl (Nat.le_refl _) (Nat.le_refl _) (And.intro rfl h)
    · refine zr_tableIn (off := 188) (tgt := 209) dX9_readSign_21 h.1 (by omega) (by omega) (by rw [hsx]; rfl) rfl ?_
      have h := h.2.2.2.2.2.2.2.2.2.2.2.2.2.2.2.2.2.2.2.2.2.2.1 hsx
      refine zr_aload_n (pc' := 210) (i := 0) dX9_readSign_209 rfl rfl rfl ?_
      refine zr_aload_n (pc' := 211) (i := 0) dX9_readSign_210 rfl rfl rfl ?_
      refine zr_bipush (pc' := 213) dX9_readSign_211 rfl rfl ?_
      refine zn_callV (pc' := 216) (args := [.inl 61]) (st := [.inr (.inr 2)]) (st' := fun r23 => [.inl r23, .inr (.inr 2)]) dX9_readSign_213 rfl cv_X9_74 ⟨rfl, rfl, by decide, by decide⟩ rfl ps_2 kd_2 rfl rfl (Nat.le_of_ble_eq_true rfl) (fun _ => rfl) h ?_
      intro r23 M24 h
      refine zr_if_eq (tgt := 224) (pc' := 219) dX9_readSign_216 rfl rfl h.1 (fun hc => ?_) (fun hc => ?_)
      · have h := h.2.1 hc
        refine zr_aload_n (pc' := 225) (i := 0) dX9_readSign_224 rfl rfl rfl ?_
        refine zr_bipush (pc' := 227) dX9_readSign_225 rfl rfl ?_
        refine zn_callV (pc' := 230) (args := [.inl 62]) (st := [.inr (.inr 2)]) (st' := fun r25 => [.inl r25, .inr (.inr 2)]) dX9_readSign_227 rfl cv_X9_74 ⟨rfl, rfl, by decide, by decide⟩ rfl ps_2 kd_2 rfl rfl (Nat.le_of_ble_eq_true rfl) (fun _ => rfl) h ?_
        intro r25 M26 h
        refine zr_if_eq (tgt := 238) (pc' := 233) dX9_readSign_230 rfl rfl h.1 (fun hc => ?_) (fun hc => ?_)
        · have h := h.2.1 hc
          refine zr_bipush (pc' := 240) dX9_readSign_238 rfl rfl ?_
          refine zr_put (pc' := 243) dX9_readSign_240 rfl ps_2 kd_2 fl_X9_35 kc_9 rfl nf_2_4 rfl trivial (fun M27 hM1 => ?_)
          have h := h M27 hM1
          refine zr_goto (pc' := 275) dX9_readSign_243 rfl ?_
          exact zr_return (x := 0) dX9_readSign_275 rfl (Nat.le_refl _) (Nat.le_refl _) (And.intro rfl h)
        · have h := h.2.2 hc
          refine zr_bipush (pc' := 235) dX9_readSign_233 rfl rfl ?_
          refine zr_goto (pc' := 240) dX9_readSign_235 rfl ?_
          refine zr_put (pc' := 243) dX9_readSign_240 rfl ps_2 kd_2 fl_X9_35 kc_9 rfl nf_2_4 rfl trivial (fun M28 hM1 => ?_)
          have h := h M28 hM1
          refine zr_goto (pc' := 275) dX9_readSign_243 rfl ?_
          exact zr_return (x := 0) dX9_readSign_275 rfl (Nat.le_refl _) (Nat.le_refl _) (And.intro rfl h)
      · have h := h.2.2 hc
        refine zr_bipush (pc' := 221) dX9_readSign_219 rfl rfl ?_
        refine zr_goto (pc' := 240) dX9_readSign_221 rfl ?_
        refine zr_put (pc' := 243) dX9_readSign_240 rfl ps_2 kd_2 fl_X9_35 kc_9 rfl nf_2_4 rfl trivial (fun M29 hM1 => ?_)
        have h := h M29 hM1
        refine zr_goto (pc' := 275) dX9_readSign_243 rfl ?_
        exact zr_return (x := 0) dX9_readSign_275 rfl (Nat.le_refl _) (Nat.le_refl _) (And.intro rfl h)
    · refine zr_tableIn (off := 179) (tgt := 200) dX9_readSign_21 h.1 (by omega) (by omega) (by rw [hsx]; rfl) rfl ?_
      have h := h.2.2.2.2.2.2.2.2.2.2.2.2.2.2.2.2.2.2.2.2.2.2.2.1 hsx
      refine zr_aload_n (pc' := 201) (i := 0) dX9_readSign_200 rfl rfl rfl ?_
      refine zr_bipush (pc' := 203) dX9_readSign_201 rfl rfl ?_
      refine zr_put (pc' := 206) dX9_readSign_203 rfl ps_2 kd_2 fl_X9_35 kc_9 rfl nf_2_4 rfl trivial (fun M30 hM1 => ?_)
      have h := h M30 hM1
      refine zr_goto (pc' := 275) dX9_readSign_206 rfl ?_
      exact zr_return (x := 0) dX9_readSign_275 rfl (Nat.le_refl _) (Nat.le_refl _) (And.intro rfl h)
    · refine zr_tableIn (off := 225) (tgt := 246) dX9_readSign_21 h.1 (by omega) (by omega) (by rw [hsx]; rfl) rfl ?_
      have h := h.2.2.2.2.2.2.2.2.2.2.2.2.2.2.2.2.2.2.2.2.2.2.2.2 hsx
      refine zr_aload_n (pc' := 247) (i := 0) dX9_readSign_246 rfl rfl rfl ?_
      refine zr_aload_n (pc' := 248) (i := 0) dX9_readSign_247 rfl rfl rfl ?_
      refine zr_bipush (pc' := 250) dX9_readSign_248 rfl rfl ?_
      refine zn_callV (pc' := 253) (args := [.inl 61]) (st := [.inr (.inr 2)]) (st' := fun r31 => [.inl r31, .inr (.inr 2)]) dX9_readSign_250 rfl cv_X9_74 ⟨rfl, rfl, by decide, by decide⟩ rfl ps_2 kd_2 rfl rfl (Nat.le_of_ble_eq_true rfl) (fun _ => rfl) h ?_
      intro r31 M32 h
      refine zr_if_eq (tgt := 261) (pc' := 256) dX9_readSign_253 rfl rfl h.1 (fun hc => ?_) (fun hc => ?_)
      · have h := h.2.1 hc
        refine zr_bipush (pc' := 263) dX9_readSign_261 rfl rfl ?_
        refine zr_put (pc' := 266) dX9_readSign_263 rfl ps_2 kd_2 fl_X9_35 kc_9 rfl nf_2_4 rfl trivial (fun M33 hM1 => ?_)
        have h := h M33 hM1
        refine zr_goto (pc' := 275) dX9_readSign_266 rfl ?_
        exact zr_return (x := 0) dX9_readSign_275 rfl (Nat.le_refl _) (Nat.le_refl _) (And.intro rfl h)
      · have h := h.2.2 hc
        refine zr_bipush (pc' := 258) dX9_readSign_256 rfl rfl ?_
        refine zr_goto (pc' := 263) dX9_readSign_258 rfl ?_
        refine zr_put (pc' := 266) dX9_readSign_263 rfl ps_2 kd_2 fl_X9_35 kc_9 rfl nf_2_4 rfl trivial (fun M34 hM1 => ?_)
        have h := h M34 hM1
        refine zr_goto (pc' := 275) dX9_readSign_266 rfl ?_
        exact zr_return (x := 0) dX9_readSign_275 rfl (Nat.le_refl _) (Nat.le_refl _) (And.intro rfl h)
set_option maxRecDepth 20000 in
theorem vcX9_takes {E : zE} {M : zM} {Q : Int → zM → Prop} (l1 : Int)
    (h : ((zR (M 2 3) ∧ zR (M 2 2)) ∧ (((M 2 2) ≤ (M 2 3) → Q 0 M) ∧ ((M 2 3) < (M 2 2) → (0 ≤ M 2 3 ∧ M 2 3 < 500) ∧ ((zR (M 3 ((M 2 3).toNat)) ∧ zR l1) ∧ ((¬ (M 3 ((M 2 3).toNat)) = l1 → Q 0 M) ∧ ((M 3 ((M 2 3).toNat)) = l1 → (∀ M1, M1 = zup M 2 3 ((M 2 3) + 1) → Q 1 M1))))))))
    : zP E mX9_takes [.inr (.inr 2), .inl l1] M Q := by
  refine zP_of (by decide +kernel) rfl (Nat.le_of_ble_eq_true rfl) ?_
  show zA E zNN (0, 0) mX9_takes 0 [(0, .inr (.inr 2)), (1, .inl l1)] [] M (zQ Q)
  refine zr_aload_n (pc' := 1) (i := 0) dX9_takes_0 rfl rfl rfl ?_
  refine zr_get (pc' := 4) dX9_takes_1 rfl ps_2 kd_2 fl_X9_29 kc_9 (gv_2_3 _) ?_
  refine zr_aload_n (pc' := 5) (i := 0) dX9_takes_4 rfl rfl rfl ?_
  refine zr_get (pc' := 8) dX9_takes_5 rfl ps_2 kd_2 fl_X9_26 kc_9 (gv_2_2 _) ?_
  refine zr_icmp_ge (tgt := 36) (pc' := 11) dX9_takes_8 rfl rfl h.1.1 h.1.2 (fun hc => ?_) (fun hc => ?_)
  · have h := h.2.1 hc
    refine zr_iconst (pc' := 37) dX9_takes_36 rfl ?_
    exact zr_ireturn dX9_takes_37 rfl rfl (Or.inl rfl) (Nat.le_refl _) (Nat.le_refl _) (And.intro rfl h)
  · have h := h.2.2 hc
    refine zr_aload_n (pc' := 12) (i := 0) dX9_takes_11 rfl rfl rfl ?_
    refine zr_get (pc' := 15) dX9_takes_12 rfl ps_2 kd_2 fl_X9_9 kc_9 (gv_2_0 _) ?_
    refine zr_aload_n (pc' := 16) (i := 0) dX9_takes_15 rfl rfl rfl ?_
    refine zr_get (pc' := 19) dX9_takes_16 rfl ps_2 kd_2 fl_X9_29 kc_9 (gv_2_3 _) ?_
    refine zr_iald (pc' := 20) dX9_takes_19 rfl ps_3 kd_3 (by decide) h.1.1 h.1.2 ?_
    have h := h.2
    refine zr_iload_n (pc' := 21) (i := 1) dX9_takes_20 rfl rfl rfl ?_
    refine zr_icmp_ne (tgt := 36) (pc' := 24) dX9_takes_21 rfl rfl h.1.1 h.1.2 (fun hc => ?_) (fun hc => ?_)
    · have h := h.2.1 hc
      refine zr_iconst (pc' := 37) dX9_takes_36 rfl ?_
      exact zr_ireturn dX9_takes_37 rfl rfl (Or.inl rfl) (Nat.le_refl _) (Nat.le_refl _) (And.intro rfl h)
    · have h := h.2.2 hc
      refine zr_aload_n (pc' := 25) (i := 0) dX9_takes_24 rfl rfl rfl ?_
      refine zr_dup (pc' := 26) dX9_takes_25 rfl rfl ?_
      refine zr_get (pc' := 29) dX9_takes_26 rfl ps_2 kd_2 fl_X9_29 kc_9 (gv_2_3 _) ?_
      refine zr_iconst (pc' := 30) dX9_takes_29 rfl ?_
      refine zr_iadd (pc' := 31) dX9_takes_30 rfl ?_
      refine zr_put (pc' := 34) dX9_takes_31 rfl ps_2 kd_2 fl_X9_29 kc_9 rfl nf_2_3 rfl trivial (fun M1 hM1 => ?_)
      have h := h M1 hM1
      refine zr_iconst (pc' := 35) dX9_takes_34 rfl ?_
      exact zr_ireturn dX9_takes_35 rfl rfl (Or.inr rfl) (Nat.le_refl _) (Nat.le_refl _) (And.intro rfl h)
set_option maxRecDepth 20000 in
theorem vcX10_firstHour {E : zE} {M : zM} {Q : Int → zM → Prop} (l0 : Int) (hi0 : zIs_10 l0)
    (h : (zR ((M l0.toNat 0) - 12)) ∧ Q (if 0 < ((M l0.toNat 0) - 12) then ((M l0.toNat 0) - 12) else 0) M)
    : zP E mX10_firstHour [.inr (.inr l0)] M Q := by
  refine zP_of (by decide +kernel) rfl (Nat.le_of_ble_eq_true rfl) ?_
  show zA E zNN (0, 0) mX10_firstHour 0 [(0, .inr (.inr l0))] [] M (zQ Q)
  refine zr_iconst (pc' := 1) dX10_firstHour_0 rfl ?_
  refine zr_aload_n (pc' := 2) (i := 0) dX10_firstHour_1 rfl rfl rfl ?_
  refine zr_get (pc' := 5) dX10_firstHour_2 rfl (is_10_pos hi0) (is_10_kd hi0) fl_X10_7 kc_10 (is_10_gv_0 hi0 _) ?_
  refine zr_bipush (pc' := 7) dX10_firstHour_5 rfl rfl ?_
  refine zr_isub (pc' := 8) dX10_firstHour_7 rfl ?_
  refine zr_max (pc' := 11) dX10_firstHour_8 rfl ml_X10_15.1 ml_X10_15.2.1 ml_X10_15.2.2.1 ml_X10_15.2.2.2 (by decide) (Nat.le_of_ble_eq_true rfl) (Nat.zero_le _) (Nat.zero_le _) (zRd rfl) h.1 ?_
  have h := h.2
  exact zr_ireturn dX10_firstHour_11 rfl rfl trivial (Nat.le_refl _) (Nat.le_refl _) (And.intro rfl h)
set_option maxRecDepth 20000 in
theorem vcX10_lastHour {E : zE} {M : zM} {Q : Int → zM → Prop} (l0 : Int) (hi0 : zIs_10 l0)
    (h : Q ((M l0.toNat 0) + 12) M)
    : zP E mX10_lastHour [.inr (.inr l0)] M Q := by
  refine zP_of (by decide +kernel) rfl (Nat.le_of_ble_eq_true rfl) ?_
  show zA E zNN (0, 0) mX10_lastHour 0 [(0, .inr (.inr l0))] [] M (zQ Q)
  refine zr_aload_n (pc' := 1) (i := 0) dX10_lastHour_0 rfl rfl rfl ?_
  refine zr_get (pc' := 4) dX10_lastHour_1 rfl (is_10_pos hi0) (is_10_kd hi0) fl_X10_7 kc_10 (is_10_gv_0 hi0 _) ?_
  refine zr_bipush (pc' := 6) dX10_lastHour_4 rfl rfl ?_
  refine zr_iadd (pc' := 7) dX10_lastHour_6 rfl ?_
  exact zr_ireturn dX10_lastHour_7 rfl rfl trivial (Nat.le_refl _) (Nat.le_refl _) (And.intro rfl h)
set_option maxRecDepth 20000 in
theorem vcX11_feed {E : zE} {M : zM} {Q : Int → zM → Prop} (l1 l2 l3 l4 l5 : Int)
    (h : (zP E mX9_hasSpace [.inr (.inr 2), .inl 20] M (fun r1 M2 => ((zR r1) ∧ ((¬ r1 = 0 → (zP E mX9_append [.inr (.inr 2), .inl l1] M2 (fun r3 M4 => (zP E mX9_append [.inr (.inr 2), .inl l2] M4 (fun r5 M6 => (zP E mX9_append [.inr (.inr 2), .inl l3] M6 (fun r7 M8 => (zP E mX9_append [.inr (.inr 2), .inl l4] M8 (fun r9 M10 => (zP E mX9_append [.inr (.inr 2), .inl l5] M10 (fun r11 M12 => Q (M12 2 1) M12))))))))))) ∧ (r1 = 0 → Q (-1) M2))))))
    : zP E mX11_feed [.inr (.inr 0), .inl l1, .inl l2, .inl l3, .inl l4, .inl l5] M Q := by
  refine zP_of (by decide +kernel) rfl (Nat.le_of_ble_eq_true rfl) ?_
  show zA E zNN (0, 0) mX11_feed 0 [(0, .inr (.inr 0)), (1, .inl l1), (2, .inl l2), (3, .inl l3), (4, .inl l4), (5, .inl l5)] [] M (zQ Q)
  refine zr_aload_n (pc' := 1) (i := 0) dX11_feed_0 rfl rfl rfl ?_
  refine zr_get (pc' := 4) dX11_feed_1 rfl ps_0 kd_0 fl_X11_10 kc_11 (gv_0_1 _) ?_
  refine zr_get (pc' := 7) dX11_feed_4 rfl ps_1 kd_1 fl_X11_89 kc_7 (gv_1_0 _) ?_
  refine zr_astore (pc' := 9) (al' := [(6, .inr (.inr 2)), (0, .inr (.inr 0)), (1, .inl l1), (2, .inl l2), (3, .inl l3), (4, .inl l4), (5, .inl l5)]) dX11_feed_7 rfl (by decide) rfl ?_
  refine zr_aload (pc' := 11) dX11_feed_9 rfl rfl ?_
  refine zr_bipush (pc' := 13) dX11_feed_11 rfl rfl ?_
  refine zn_callV (pc' := 16) (args := [.inl 20]) (st := []) (st' := fun r1 => [.inl r1]) dX11_feed_13 rfl cv_X11_93 ⟨rfl, rfl, by decide, by decide⟩ rfl ps_2 kd_2 rfl rfl (Nat.le_of_ble_eq_true rfl) (fun _ => rfl) h ?_
  intro r1 M2 h
  refine zr_if_ne (tgt := 21) (pc' := 19) dX11_feed_16 rfl rfl h.1 (fun hc => ?_) (fun hc => ?_)
  · have h := h.2.1 hc
    refine zr_aload (pc' := 23) dX11_feed_21 rfl rfl ?_
    refine zr_iload_n (pc' := 24) (i := 1) dX11_feed_23 rfl rfl rfl ?_
    refine zn_callV (pc' := 27) (args := [.inl l1]) (st := []) (st' := fun _ => []) dX11_feed_24 rfl cv_X11_99 ⟨rfl, rfl, by decide, by decide⟩ rfl ps_2 kd_2 rfl rfl (Nat.le_of_ble_eq_true rfl) (fun _ => rfl) h ?_
    intro r3 M4 h
    refine zr_aload (pc' := 29) dX11_feed_27 rfl rfl ?_
    refine zr_iload_n (pc' := 30) (i := 2) dX11_feed_29 rfl rfl rfl ?_
    refine zn_callV (pc' := 33) (args := [.inl l2]) (st := []) (st' := fun _ => []) dX11_feed_30 rfl cv_X11_99 ⟨rfl, rfl, by decide, by decide⟩ rfl ps_2 kd_2 rfl rfl (Nat.le_of_ble_eq_true rfl) (fun _ => rfl) h ?_
    intro r5 M6 h
    refine zr_aload (pc' := 35) dX11_feed_33 rfl rfl ?_
    refine zr_iload_n (pc' := 36) (i := 3) dX11_feed_35 rfl rfl rfl ?_
    refine zn_callV (pc' := 39) (args := [.inl l3]) (st := []) (st' := fun _ => []) dX11_feed_36 rfl cv_X11_99 ⟨rfl, rfl, by decide, by decide⟩ rfl ps_2 kd_2 rfl rfl (Nat.le_of_ble_eq_true rfl) (fun _ => rfl) h ?_
    intro r7 M8 h
    refine zr_aload (pc' := 41) dX11_feed_39 rfl rfl ?_
    refine zr_iload (pc' := 43) dX11_feed_41 rfl rfl ?_
    refine zn_callV (pc' := 46) (args := [.inl l4]) (st := []) (st' := fun _ => []) dX11_feed_43 rfl cv_X11_99 ⟨rfl, rfl, by decide, by decide⟩ rfl ps_2 kd_2 rfl rfl (Nat.le_of_ble_eq_true rfl) (fun _ => rfl) h ?_
    intro r9 M10 h
    refine zr_aload (pc' := 48) dX11_feed_46 rfl rfl ?_
    refine zr_iload (pc' := 50) dX11_feed_48 rfl rfl ?_
    refine zn_callV (pc' := 53) (args := [.inl l5]) (st := []) (st' := fun _ => []) dX11_feed_50 rfl cv_X11_99 ⟨rfl, rfl, by decide, by decide⟩ rfl ps_2 kd_2 rfl rfl (Nat.le_of_ble_eq_true rfl) (fun _ => rfl) h ?_
    intro r11 M12 h
    refine zr_aload (pc' := 55) dX11_feed_53 rfl rfl ?_
    refine zr_get (pc' := 58) dX11_feed_55 rfl ps_2 kd_2 fl_X11_103 kc_9 (gv_2_1 _) ?_
    exact zr_ireturn dX11_feed_58 rfl rfl trivial (Nat.le_refl _) (Nat.le_refl _) (And.intro rfl h)
  · have h := h.2.2 hc
    refine zr_iconst (pc' := 20) dX11_feed_19 rfl ?_
    exact zr_ireturn dX11_feed_20 rfl rfl trivial (Nat.le_refl _) (Nat.le_refl _) (And.intro rfl h)
set_option maxRecDepth 20000 in
theorem vcX11_rules {E : zE} {M : zM} {Q : Int → zM → Prop} (l1 : Int)
    (h : ((zR l1) ∧ ((l1 < 0 → Q (-2) M) ∧ (0 ≤ l1 → ((zR l1 ∧ zR (M 2 1)) ∧ ((l1 ≤ (M 2 1) → (zP E mX7_readBook [.inr (.inr 1), .inl l1, .inr (.inr (M 0 3))] M (fun r1 M2 => ((zR r1) ∧ ((¬ r1 = (-1) → (∀ M3, M3 = zup M2 0 2 (M2 0 3) → (∀ M4, M4 = zup M3 0 3 (M2 0 2) → (zP E mX11_alertsChanged [.inr (.inr 0), .inl 0] M4 (fun r5 M6 => Q r1 M6))))) ∧ (r1 = (-1) → Q (-1) M2)))))) ∧ ((M 2 1) < l1 → Q (-2) M)))))))
    : zP E mX11_rules [.inr (.inr 0), .inl l1] M Q := by
  refine zP_of (by decide +kernel) rfl (Nat.le_of_ble_eq_true rfl) ?_
  show zA E zNN (0, 0) mX11_rules 0 [(0, .inr (.inr 0)), (1, .inl l1)] [] M (zQ Q)
  refine zr_iload_n (pc' := 1) (i := 1) dX11_rules_0 rfl rfl rfl ?_
  refine zr_if_lt (tgt := 18) (pc' := 4) dX11_rules_1 rfl rfl h.1 (fun hc => ?_) (fun hc => ?_)
  · have h := h.2.1 hc
    refine zr_bipush (pc' := 20) dX11_rules_18 rfl rfl ?_
    exact zr_ireturn dX11_rules_20 rfl rfl trivial (Nat.le_refl _) (Nat.le_refl _) (And.intro rfl h)
  · have h := h.2.2 hc
    refine zr_iload_n (pc' := 5) (i := 1) dX11_rules_4 rfl rfl rfl ?_
    refine zr_aload_n (pc' := 6) (i := 0) dX11_rules_5 rfl rfl rfl ?_
    refine zr_get (pc' := 9) dX11_rules_6 rfl ps_0 kd_0 fl_X11_10 kc_11 (gv_0_1 _) ?_
    refine zr_get (pc' := 12) dX11_rules_9 rfl ps_1 kd_1 fl_X11_89 kc_7 (gv_1_0 _) ?_
    refine zr_get (pc' := 15) dX11_rules_12 rfl ps_2 kd_2 fl_X11_103 kc_9 (gv_2_1 _) ?_
    refine zr_icmp_le (tgt := 21) (pc' := 18) dX11_rules_15 rfl rfl h.1.1 h.1.2 (fun hc => ?_) (fun hc => ?_)
    · have h := h.2.1 hc
      refine zr_aload_n (pc' := 22) (i := 0) dX11_rules_21 rfl rfl rfl ?_
      refine zr_get (pc' := 25) dX11_rules_22 rfl ps_0 kd_0 fl_X11_10 kc_11 (gv_0_1 _) ?_
      refine zr_iload_n (pc' := 26) (i := 1) dX11_rules_25 rfl rfl rfl ?_
      refine zr_aload_n (pc' := 27) (i := 0) dX11_rules_26 rfl rfl rfl ?_
      refine zr_get (pc' := 30) dX11_rules_27 rfl ps_0 kd_0 fl_X11_23 kc_11 (gv_0_3 _) ?_
      refine zn_callV (pc' := 33) (args := [.inl l1, .inr (.inr (M 0 3))]) (st := []) (st' := fun r1 => [.inl r1]) dX11_rules_30 rfl cv_X11_107 ⟨rfl, rfl, by decide, by decide⟩ rfl ps_1 kd_1 rfl rfl (Nat.le_of_ble_eq_true rfl) (fun _ => rfl) h ?_
      intro r1 M2 h
      refine zr_istore_n (pc' := 34) (i := 2) (al' := [(2, .inl r1), (0, .inr (.inr 0)), (1, .inl l1)]) dX11_rules_33 rfl rfl (by decide) rfl ?_
      refine zr_iload_n (pc' := 35) (i := 2) dX11_rules_34 rfl rfl rfl ?_
      refine zr_iconst (pc' := 36) dX11_rules_35 rfl ?_
      refine zr_icmp_ne (tgt := 41) (pc' := 39) dX11_rules_36 rfl rfl h.1 (zRd rfl) (fun hc => ?_) (fun hc => ?_)
      · have h := h.2.1 hc
        refine zr_aload_n (pc' := 42) (i := 0) dX11_rules_41 rfl rfl rfl ?_
        refine zr_get (pc' := 45) dX11_rules_42 rfl ps_0 kd_0 fl_X11_19 kc_11 (gv_0_2 _) ?_
        refine zr_astore_n (pc' := 46) (i := 3) (al' := [(3, .inr (.inr (M2 0 2))), (2, .inl r1), (0, .inr (.inr 0)), (1, .inl l1)]) dX11_rules_45 rfl rfl (by decide) rfl ?_
        refine zr_aload_n (pc' := 47) (i := 0) dX11_rules_46 rfl rfl rfl ?_
        refine zr_aload_n (pc' := 48) (i := 0) dX11_rules_47 rfl rfl rfl ?_
        refine zr_get (pc' := 51) dX11_rules_48 rfl ps_0 kd_0 fl_X11_23 kc_11 (gv_0_3 _) ?_
        refine zr_put (pc' := 54) dX11_rules_51 rfl ps_0 kd_0 fl_X11_19 kc_11 rfl nf_0_2 rfl trivial (fun M3 hM1 => ?_)
        have h := h M3 hM1
        refine zr_aload_n (pc' := 55) (i := 0) dX11_rules_54 rfl rfl rfl ?_
        refine zr_aload_n (pc' := 56) (i := 3) dX11_rules_55 rfl rfl rfl ?_
        refine zr_put (pc' := 59) dX11_rules_56 rfl ps_0 kd_0 fl_X11_23 kc_11 rfl nf_0_3 rfl trivial (fun M4 hM1 => ?_)
        have h := h M4 hM1
        refine zr_aload_n (pc' := 60) (i := 0) dX11_rules_59 rfl rfl rfl ?_
        refine zr_iconst (pc' := 61) dX11_rules_60 rfl ?_
        refine zn_callV (pc' := 64) (args := [.inl 0]) (st := []) (st' := fun _ => []) dX11_rules_61 rfl cv_X11_111 ⟨rfl, rfl, by decide, by decide⟩ rfl ps_0 kd_0 rfl rfl (Nat.le_of_ble_eq_true rfl) (fun _ => rfl) h ?_
        intro r5 M6 h
        refine zr_iload_n (pc' := 65) (i := 2) dX11_rules_64 rfl rfl rfl ?_
        exact zr_ireturn dX11_rules_65 rfl rfl trivial (Nat.le_refl _) (Nat.le_refl _) (And.intro rfl h)
      · have h := h.2.2 hc
        refine zr_iconst (pc' := 40) dX11_rules_39 rfl ?_
        exact zr_ireturn dX11_rules_40 rfl rfl trivial (Nat.le_refl _) (Nat.le_refl _) (And.intro rfl h)
    · have h := h.2.2 hc
      refine zr_bipush (pc' := 20) dX11_rules_18 rfl rfl ?_
      exact zr_ireturn dX11_rules_20 rfl rfl trivial (Nat.le_refl _) (Nat.le_refl _) (And.intro rfl h)
set_option maxRecDepth 20000 in
theorem vcX11_fault {E : zE} {M : zM} {Q : Int → zM → Prop} (l1 : Int)
    (h : (zR l1 ∧ ((¬ l1 = 0 ∧ ¬ l1 = 1) → Q (-1) M) ∧ (l1 = 0 → Q (M 1 1) M) ∧ (l1 = 1 → Q (M 1 2) M)))
    : zP E mX11_fault [.inr (.inr 0), .inl l1] M Q := by
  refine zP_of (by decide +kernel) rfl (Nat.le_of_ble_eq_true rfl) ?_
  show zA E zNN (0, 0) mX11_fault 0 [(0, .inr (.inr 0)), (1, .inl l1)] [] M (zQ Q)
  refine zr_iload_n (pc' := 1) (i := 1) dX11_fault_0 rfl rfl rfl ?_
  rcases Classical.em (¬ l1 = 0 ∧ ¬ l1 = 1) with hsw | hsw
  · refine zr_lookup (tgt := 44) (off := 43) dX11_fault_1 (by decide) h.1 (by simp only [Op.lookupswitch.offset]; (repeat' split) <;> omega) rfl ?_
    have h := h.2.1 hsw
    refine zr_iconst (pc' := 45) dX11_fault_44 rfl ?_
    exact zr_ireturn dX11_fault_45 rfl rfl trivial (Nat.le_refl _) (Nat.le_refl _) (And.intro rfl h)
  · have hsx : l1 = 0 ∨ l1 = 1 := by omega
    rcases hsx with hsx | hsx
    · refine zr_lookup (off := 27) (tgt := 28) dX11_fault_1 (by decide) h.1 (by rw [hsx]; rfl) rfl ?_
      have h := h.2.2.1 hsx
      refine zr_aload_n (pc' := 29) (i := 0) dX11_fault_28 rfl rfl rfl ?_
      refine zr_get (pc' := 32) dX11_fault_29 rfl ps_0 kd_0 fl_X11_10 kc_11 (gv_0_1 _) ?_
      refine zr_get (pc' := 35) dX11_fault_32 rfl ps_1 kd_1 fl_X11_114 kc_7 (gv_1_1 _) ?_
      exact zr_ireturn dX11_fault_35 rfl rfl trivial (Nat.le_refl _) (Nat.le_refl _) (And.intro rfl h)
    · refine zr_lookup (off := 35) (tgt := 36) dX11_fault_1 (by decide) h.1 (by rw [hsx]; rfl) rfl ?_
      have h := h.2.2.2 hsx
      refine zr_aload_n (pc' := 37) (i := 0) dX11_fault_36 rfl rfl rfl ?_
      refine zr_get (pc' := 40) dX11_fault_37 rfl ps_0 kd_0 fl_X11_10 kc_11 (gv_0_1 _) ?_
      refine zr_get (pc' := 43) dX11_fault_40 rfl ps_1 kd_1 fl_X11_117 kc_7 (gv_1_2 _) ?_
      exact zr_ireturn dX11_fault_43 rfl rfl trivial (Nat.le_refl _) (Nat.le_refl _) (And.intro rfl h)
set_option maxRecDepth 20000 in
theorem vcX11_hours {E : zE} {M : zM} {Q : Int → zM → Prop} (l1 : Int)
    (h : (zP E mX11_within [.inl l1, .inl 0, .inl 99] M (fun r1 M2 => ((zR r1) ∧ ((r1 = 0 → Q (-1) M2) ∧ (¬ r1 = 0 → ((zR ((M2 0 0) + l1)) ∧ ((((M2 0 0) + l1) < 100 → (∀ M3, M3 = zup M2 0 0 ((M2 0 0) + l1) → Q (M3 0 0) M3)) ∧ (100 ≤ ((M2 0 0) + l1) → Q (-1) M2)))))))))
    : zP E mX11_hours [.inr (.inr 0), .inl l1] M Q := by
  refine zP_of (by decide +kernel) rfl (Nat.le_of_ble_eq_true rfl) ?_
  show zA E zNN (0, 0) mX11_hours 0 [(0, .inr (.inr 0)), (1, .inl l1)] [] M (zQ Q)
  refine zr_iload_n (pc' := 1) (i := 1) dX11_hours_0 rfl rfl rfl ?_
  refine zr_iconst (pc' := 2) dX11_hours_1 rfl ?_
  refine zr_bipush (pc' := 4) dX11_hours_2 rfl rfl ?_
  refine zn_callS (pc' := 7) (args := [.inl l1, .inl 0, .inl 99]) (st := []) (st' := fun r1 => [.inl r1]) dX11_hours_4 rfl cs_X11_120 ⟨rfl, rfl, by decide, by decide⟩ rfl rfl rfl (Nat.le_of_ble_eq_true rfl) (fun _ => rfl) h ?_
  intro r1 M2 h
  refine zr_if_eq (tgt := 21) (pc' := 10) dX11_hours_7 rfl rfl h.1 (fun hc => ?_) (fun hc => ?_)
  · have h := h.2.1 hc
    refine zr_iconst (pc' := 22) dX11_hours_21 rfl ?_
    exact zr_ireturn dX11_hours_22 rfl rfl trivial (Nat.le_refl _) (Nat.le_refl _) (And.intro rfl h)
  · have h := h.2.2 hc
    refine zr_aload_n (pc' := 11) (i := 0) dX11_hours_10 rfl rfl rfl ?_
    refine zr_get (pc' := 14) dX11_hours_11 rfl ps_0 kd_0 fl_X11_124 kc_11 (gv_0_0 _) ?_
    refine zr_iload_n (pc' := 15) (i := 1) dX11_hours_14 rfl rfl rfl ?_
    refine zr_iadd (pc' := 16) dX11_hours_15 rfl ?_
    refine zr_bipush (pc' := 18) dX11_hours_16 rfl rfl ?_
    refine zr_icmp_lt (tgt := 23) (pc' := 21) dX11_hours_18 rfl rfl h.1 (zRd rfl) (fun hc => ?_) (fun hc => ?_)
    · have h := h.2.1 hc
      refine zr_aload_n (pc' := 24) (i := 0) dX11_hours_23 rfl rfl rfl ?_
      refine zr_dup (pc' := 25) dX11_hours_24 rfl rfl ?_
      refine zr_get (pc' := 28) dX11_hours_25 rfl ps_0 kd_0 fl_X11_124 kc_11 (gv_0_0 _) ?_
      refine zr_iload_n (pc' := 29) (i := 1) dX11_hours_28 rfl rfl rfl ?_
      refine zr_iadd (pc' := 30) dX11_hours_29 rfl ?_
      refine zr_put (pc' := 33) dX11_hours_30 rfl ps_0 kd_0 fl_X11_124 kc_11 rfl nf_0_0 rfl trivial (fun M3 hM1 => ?_)
      have h := h M3 hM1
      refine zr_aload_n (pc' := 34) (i := 0) dX11_hours_33 rfl rfl rfl ?_
      refine zr_get (pc' := 37) dX11_hours_34 rfl ps_0 kd_0 fl_X11_124 kc_11 (gv_0_0 _) ?_
      exact zr_ireturn dX11_hours_37 rfl rfl trivial (Nat.le_refl _) (Nat.le_refl _) (And.intro rfl h)
    · have h := h.2.2 hc
      refine zr_iconst (pc' := 22) dX11_hours_21 rfl ?_
      exact zr_ireturn dX11_hours_22 rfl rfl trivial (Nat.le_refl _) (Nat.le_refl _) (And.intro rfl h)
set_option maxRecDepth 20000 in
theorem vcX11_post {E : zE} {M : zM} {Q : Int → zM → Prop} (l1 : Int)
    (h : (zP E mX5_addPost [.inr (.inr 20), .inl l1] M (fun r1 M2 => ((zR r1) ∧ ((r1 = (-1) → Q r1 M2) ∧ (¬ r1 = (-1) → (zP E mX11_alertsChanged [.inr (.inr 0), .inl 0] M2 (fun r3 M4 => Q r1 M4))))))))
    : zP E mX11_post [.inr (.inr 0), .inl l1] M Q := by
  refine zP_of (by decide +kernel) rfl (Nat.le_of_ble_eq_true rfl) ?_
  show zA E zNN (0, 0) mX11_post 0 [(0, .inr (.inr 0)), (1, .inl l1)] [] M (zQ Q)
  refine zr_aload_n (pc' := 1) (i := 0) dX11_post_0 rfl rfl rfl ?_
  refine zr_get (pc' := 4) dX11_post_1 rfl ps_0 kd_0 fl_X11_29 kc_11 (gv_0_4 _) ?_
  refine zr_iload_n (pc' := 5) (i := 1) dX11_post_4 rfl rfl rfl ?_
  refine zn_callV (pc' := 8) (args := [.inl l1]) (st := []) (st' := fun r1 => [.inl r1]) dX11_post_5 rfl cv_X11_127 ⟨rfl, rfl, by decide, by decide⟩ rfl ps_20 kd_20 rfl rfl (Nat.le_of_ble_eq_true rfl) (fun _ => rfl) h ?_
  intro r1 M2 h
  refine zr_istore_n (pc' := 9) (i := 2) (al' := [(2, .inl r1), (0, .inr (.inr 0)), (1, .inl l1)]) dX11_post_8 rfl rfl (by decide) rfl ?_
  refine zr_iload_n (pc' := 10) (i := 2) dX11_post_9 rfl rfl rfl ?_
  refine zr_iconst (pc' := 11) dX11_post_10 rfl ?_
  refine zr_icmp_eq (tgt := 19) (pc' := 14) dX11_post_11 rfl rfl h.1 (zRd rfl) (fun hc => ?_) (fun hc => ?_)
  · have h := h.2.1 hc
    refine zr_iload_n (pc' := 20) (i := 2) dX11_post_19 rfl rfl rfl ?_
    exact zr_ireturn dX11_post_20 rfl rfl trivial (Nat.le_refl _) (Nat.le_refl _) (And.intro rfl h)
  · have h := h.2.2 hc
    refine zr_aload_n (pc' := 15) (i := 0) dX11_post_14 rfl rfl rfl ?_
    refine zr_iconst (pc' := 16) dX11_post_15 rfl ?_
    refine zn_callV (pc' := 19) (args := [.inl 0]) (st := []) (st' := fun _ => []) dX11_post_16 rfl cv_X11_111 ⟨rfl, rfl, by decide, by decide⟩ rfl ps_0 kd_0 rfl rfl (Nat.le_of_ble_eq_true rfl) (fun _ => rfl) h ?_
    intro r3 M4 h
    refine zr_iload_n (pc' := 20) (i := 2) dX11_post_19 rfl rfl rfl ?_
    exact zr_ireturn dX11_post_20 rfl rfl trivial (Nat.le_refl _) (Nat.le_refl _) (And.intro rfl h)
set_option maxRecDepth 20000 in
theorem vcX11_read {E : zE} {M : zM} {Q : Int → zM → Prop} (l1 l2 l3 l4 : Int)
    (h : (zP E mX11_within [.inl l2, .inl 0, .inl (M 0 0)] M (fun r1 M2 => ((zR r1) ∧ ((¬ r1 = 0 → (zP E mX5_tell [.inr (.inr 20), .inl l1, .inl l2, .inl (M2 0 0), .inl l3, .inl l4] M2 (fun r3 M4 => ((zR r3) ∧ ((r3 = (-1) → Q r3 M4) ∧ (¬ r3 = (-1) → (zP E mX11_alertsChanged [.inr (.inr 0), .inl (M4 0 0)] M4 (fun r5 M6 => Q r3 M6)))))))) ∧ (r1 = 0 → Q (-1) M2))))))
    : zP E mX11_read [.inr (.inr 0), .inl l1, .inl l2, .inl l3, .inl l4] M Q := by
  refine zP_of (by decide +kernel) rfl (Nat.le_of_ble_eq_true rfl) ?_
  show zA E zNN (0, 0) mX11_read 0 [(0, .inr (.inr 0)), (1, .inl l1), (2, .inl l2), (3, .inl l3), (4, .inl l4)] [] M (zQ Q)
  refine zr_iload_n (pc' := 1) (i := 2) dX11_read_0 rfl rfl rfl ?_
  refine zr_iconst (pc' := 2) dX11_read_1 rfl ?_
  refine zr_aload_n (pc' := 3) (i := 0) dX11_read_2 rfl rfl rfl ?_
  refine zr_get (pc' := 6) dX11_read_3 rfl ps_0 kd_0 fl_X11_124 kc_11 (gv_0_0 _) ?_
  refine zn_callS (pc' := 9) (args := [.inl l2, .inl 0, .inl (M 0 0)]) (st := []) (st' := fun r1 => [.inl r1]) dX11_read_6 rfl cs_X11_120 ⟨rfl, rfl, by decide, by decide⟩ rfl rfl rfl (Nat.le_of_ble_eq_true rfl) (fun _ => rfl) h ?_
  intro r1 M2 h
  refine zr_if_ne (tgt := 14) (pc' := 12) dX11_read_9 rfl rfl h.1 (fun hc => ?_) (fun hc => ?_)
  · have h := h.2.1 hc
    refine zr_aload_n (pc' := 15) (i := 0) dX11_read_14 rfl rfl rfl ?_
    refine zr_get (pc' := 18) dX11_read_15 rfl ps_0 kd_0 fl_X11_29 kc_11 (gv_0_4 _) ?_
    refine zr_iload_n (pc' := 19) (i := 1) dX11_read_18 rfl rfl rfl ?_
    refine zr_iload_n (pc' := 20) (i := 2) dX11_read_19 rfl rfl rfl ?_
    refine zr_aload_n (pc' := 21) (i := 0) dX11_read_20 rfl rfl rfl ?_
    refine zr_get (pc' := 24) dX11_read_21 rfl ps_0 kd_0 fl_X11_124 kc_11 (gv_0_0 _) ?_
    refine zr_iload_n (pc' := 25) (i := 3) dX11_read_24 rfl rfl rfl ?_
    refine zr_iload (pc' := 27) dX11_read_25 rfl rfl ?_
    refine zn_callV (pc' := 30) (args := [.inl l1, .inl l2, .inl (M2 0 0), .inl l3, .inl l4]) (st := []) (st' := fun r3 => [.inl r3]) dX11_read_27 rfl cv_X11_131 ⟨rfl, rfl, by decide, by decide⟩ rfl ps_20 kd_20 rfl rfl (Nat.le_of_ble_eq_true rfl) (fun _ => rfl) h ?_
    intro r3 M4 h
    refine zr_istore (pc' := 32) (al' := [(5, .inl r3), (0, .inr (.inr 0)), (1, .inl l1), (2, .inl l2), (3, .inl l3), (4, .inl l4)]) dX11_read_30 rfl (by decide) rfl ?_
    refine zr_iload (pc' := 34) dX11_read_32 rfl rfl ?_
    refine zr_iconst (pc' := 35) dX11_read_34 rfl ?_
    refine zr_icmp_eq (tgt := 46) (pc' := 38) dX11_read_35 rfl rfl h.1 (zRd rfl) (fun hc => ?_) (fun hc => ?_)
    · have h := h.2.1 hc
      refine zr_iload (pc' := 48) dX11_read_46 rfl rfl ?_
      exact zr_ireturn dX11_read_48 rfl rfl trivial (Nat.le_refl _) (Nat.le_refl _) (And.intro rfl h)
    · have h := h.2.2 hc
      refine zr_aload_n (pc' := 39) (i := 0) dX11_read_38 rfl rfl rfl ?_
      refine zr_aload_n (pc' := 40) (i := 0) dX11_read_39 rfl rfl rfl ?_
      refine zr_get (pc' := 43) dX11_read_40 rfl ps_0 kd_0 fl_X11_124 kc_11 (gv_0_0 _) ?_
      refine zn_callV (pc' := 46) (args := [.inl (M4 0 0)]) (st := []) (st' := fun _ => []) dX11_read_43 rfl cv_X11_111 ⟨rfl, rfl, by decide, by decide⟩ rfl ps_0 kd_0 rfl rfl (Nat.le_of_ble_eq_true rfl) (fun _ => rfl) h ?_
      intro r5 M6 h
      refine zr_iload (pc' := 48) dX11_read_46 rfl rfl ?_
      exact zr_ireturn dX11_read_48 rfl rfl trivial (Nat.le_refl _) (Nat.le_refl _) (And.intro rfl h)
  · have h := h.2.2 hc
    refine zr_iconst (pc' := 13) dX11_read_12 rfl ?_
    exact zr_ireturn dX11_read_13 rfl rfl trivial (Nat.le_refl _) (Nat.le_refl _) (And.intro rfl h)
set_option maxRecDepth 20000 in
theorem vcX11_reading {E : zE} {M : zM} {Q : Int → zM → Prop} (l1 l2 l3 : Int)
    (h : (zP E mX5_hasPost [.inr (.inr 20), .inl l1] M (fun r1 M2 => ((zR r1) ∧ ((r1 = 0 → Q (-20000) M2) ∧ (¬ r1 = 0 → (zP E mX11_isHour [.inl l2] M2 (fun r3 M4 => ((zR r3) ∧ ((r3 = 0 → Q (-20000) M4) ∧ (¬ r3 = 0 → (zP E mX11_isHour [.inl l3] M4 (fun r5 M6 => ((zR r5) ∧ ((¬ r5 = 0 → (zP E mX5_known [.inr (.inr 20), .inl l1, .inl l2, .inl l3] M6 (fun r7 M8 => Q r7 M8))) ∧ (r5 = 0 → Q (-20000) M6))))))))))))))))
    : zP E mX11_reading [.inr (.inr 0), .inl l1, .inl l2, .inl l3] M Q := by
  refine zP_of (by decide +kernel) rfl (Nat.le_of_ble_eq_true rfl) ?_
  show zA E zNN (0, 0) mX11_reading 0 [(0, .inr (.inr 0)), (1, .inl l1), (2, .inl l2), (3, .inl l3)] [] M (zQ Q)
  refine zr_aload_n (pc' := 1) (i := 0) dX11_reading_0 rfl rfl rfl ?_
  refine zr_get (pc' := 4) dX11_reading_1 rfl ps_0 kd_0 fl_X11_29 kc_11 (gv_0_4 _) ?_
  refine zr_iload_n (pc' := 5) (i := 1) dX11_reading_4 rfl rfl rfl ?_
  refine zn_callV (pc' := 8) (args := [.inl l1]) (st := []) (st' := fun r1 => [.inl r1]) dX11_reading_5 rfl cv_X11_135 ⟨rfl, rfl, by decide, by decide⟩ rfl ps_20 kd_20 rfl rfl (Nat.le_of_ble_eq_true rfl) (fun _ => rfl) h ?_
  intro r1 M2 h
  refine zr_if_eq (tgt := 25) (pc' := 11) dX11_reading_8 rfl rfl h.1 (fun hc => ?_) (fun hc => ?_)
  · have h := h.2.1 hc
    refine zr_sipush (pc' := 28) dX11_reading_25 rfl rfl ?_
    exact zr_ireturn dX11_reading_28 rfl rfl trivial (Nat.le_refl _) (Nat.le_refl _) (And.intro rfl h)
  · have h := h.2.2 hc
    refine zr_iload_n (pc' := 12) (i := 2) dX11_reading_11 rfl rfl rfl ?_
    refine zn_callS (pc' := 15) (args := [.inl l2]) (st := []) (st' := fun r3 => [.inl r3]) dX11_reading_12 rfl cs_X11_138 ⟨rfl, rfl, by decide, by decide⟩ rfl rfl rfl (Nat.le_of_ble_eq_true rfl) (fun _ => rfl) h ?_
    intro r3 M4 h
    refine zr_if_eq (tgt := 25) (pc' := 18) dX11_reading_15 rfl rfl h.1 (fun hc => ?_) (fun hc => ?_)
    · have h := h.2.1 hc
      refine zr_sipush (pc' := 28) dX11_reading_25 rfl rfl ?_
      exact zr_ireturn dX11_reading_28 rfl rfl trivial (Nat.le_refl _) (Nat.le_refl _) (And.intro rfl h)
    · have h := h.2.2 hc
      refine zr_iload_n (pc' := 19) (i := 3) dX11_reading_18 rfl rfl rfl ?_
      refine zn_callS (pc' := 22) (args := [.inl l3]) (st := []) (st' := fun r5 => [.inl r5]) dX11_reading_19 rfl cs_X11_138 ⟨rfl, rfl, by decide, by decide⟩ rfl rfl rfl (Nat.le_of_ble_eq_true rfl) (fun _ => rfl) h ?_
      intro r5 M6 h
      refine zr_if_ne (tgt := 29) (pc' := 25) dX11_reading_22 rfl rfl h.1 (fun hc => ?_) (fun hc => ?_)
      · have h := h.2.1 hc
        refine zr_aload_n (pc' := 30) (i := 0) dX11_reading_29 rfl rfl rfl ?_
        refine zr_get (pc' := 33) dX11_reading_30 rfl ps_0 kd_0 fl_X11_29 kc_11 (gv_0_4 _) ?_
        refine zr_iload_n (pc' := 34) (i := 1) dX11_reading_33 rfl rfl rfl ?_
        refine zr_iload_n (pc' := 35) (i := 2) dX11_reading_34 rfl rfl rfl ?_
        refine zr_iload_n (pc' := 36) (i := 3) dX11_reading_35 rfl rfl rfl ?_
        refine zn_callV (pc' := 39) (args := [.inl l1, .inl l2, .inl l3]) (st := []) (st' := fun r7 => [.inl r7]) dX11_reading_36 rfl cv_X11_141 ⟨rfl, rfl, by decide, by decide⟩ rfl ps_20 kd_20 rfl rfl (Nat.le_of_ble_eq_true rfl) (fun _ => rfl) h ?_
        intro r7 M8 h
        exact zr_ireturn dX11_reading_39 rfl rfl trivial (Nat.le_refl _) (Nat.le_refl _) (And.intro rfl h)
      · have h := h.2.2 hc
        refine zr_sipush (pc' := 28) dX11_reading_25 rfl rfl ?_
        exact zr_ireturn dX11_reading_28 rfl rfl trivial (Nat.le_refl _) (Nat.le_refl _) (And.intro rfl h)
set_option maxRecDepth 20000 in
theorem vcX11_raw {E : zE} {M : zM} {Q : Int → zM → Prop} (l1 l2 : Int)
    (h : (zP E mX11_isHour [.inl l1] M (fun r1 M2 => ((zR r1) ∧ ((r1 = 0 → Q (-1) M2) ∧ (¬ r1 = 0 → (zP E mX11_isHour [.inl l2] M2 (fun r3 M4 => ((zR r3) ∧ ((¬ r3 = 0 → zIs_6 (M4 0 2) ∧ (zP E mX6_greatestLevel [.inr (.inr (M4 0 2)), .inr (.inr 20), .inl l1, .inl l2] M4 (fun r6 M7 => Q r6 M7))) ∧ (r3 = 0 → Q (-1) M4)))))))))))
    : zP E mX11_raw [.inr (.inr 0), .inl l1, .inl l2] M Q := by
  refine zP_of (by decide +kernel) rfl (Nat.le_of_ble_eq_true rfl) ?_
  show zA E zNN (0, 0) mX11_raw 0 [(0, .inr (.inr 0)), (1, .inl l1), (2, .inl l2)] [] M (zQ Q)
  refine zr_iload_n (pc' := 1) (i := 1) dX11_raw_0 rfl rfl rfl ?_
  refine zn_callS (pc' := 4) (args := [.inl l1]) (st := []) (st' := fun r1 => [.inl r1]) dX11_raw_1 rfl cs_X11_138 ⟨rfl, rfl, by decide, by decide⟩ rfl rfl rfl (Nat.le_of_ble_eq_true rfl) (fun _ => rfl) h ?_
  intro r1 M2 h
  refine zr_if_eq (tgt := 14) (pc' := 7) dX11_raw_4 rfl rfl h.1 (fun hc => ?_) (fun hc => ?_)
  · have h := h.2.1 hc
    refine zr_iconst (pc' := 15) dX11_raw_14 rfl ?_
    exact zr_ireturn dX11_raw_15 rfl rfl trivial (Nat.le_refl _) (Nat.le_refl _) (And.intro rfl h)
  · have h := h.2.2 hc
    refine zr_iload_n (pc' := 8) (i := 2) dX11_raw_7 rfl rfl rfl ?_
    refine zn_callS (pc' := 11) (args := [.inl l2]) (st := []) (st' := fun r3 => [.inl r3]) dX11_raw_8 rfl cs_X11_138 ⟨rfl, rfl, by decide, by decide⟩ rfl rfl rfl (Nat.le_of_ble_eq_true rfl) (fun _ => rfl) h ?_
    intro r3 M4 h
    refine zr_if_ne (tgt := 16) (pc' := 14) dX11_raw_11 rfl rfl h.1 (fun hc => ?_) (fun hc => ?_)
    · have h := h.2.1 hc
      refine zr_aload_n (pc' := 17) (i := 0) dX11_raw_16 rfl rfl rfl ?_
      refine zr_get (pc' := 20) dX11_raw_17 rfl ps_0 kd_0 fl_X11_19 kc_11 (gv_0_2 _) ?_
      refine zr_aload_n (pc' := 21) (i := 0) dX11_raw_20 rfl rfl rfl ?_
      refine zr_get (pc' := 24) dX11_raw_21 rfl ps_0 kd_0 fl_X11_29 kc_11 (gv_0_4 _) ?_
      refine zr_iload_n (pc' := 25) (i := 1) dX11_raw_24 rfl rfl rfl ?_
      refine zr_iload_n (pc' := 26) (i := 2) dX11_raw_25 rfl rfl rfl ?_
      have hi5 := h.1
      have h := h.2
      refine zn_callV (pc' := 29) (args := [.inr (.inr 20), .inl l1, .inl l2]) (st := []) (st' := fun r6 => [.inl r6]) dX11_raw_26 rfl cv_X11_145 ⟨rfl, rfl, by decide, by decide⟩ rfl (is_6_pos hi5) (is_6_kd hi5) rfl rfl (Nat.le_of_ble_eq_true rfl) (fun _ => rfl) h ?_
      intro r6 M7 h
      exact zr_ireturn dX11_raw_29 rfl rfl trivial (Nat.le_refl _) (Nat.le_refl _) (And.intro rfl h)
    · have h := h.2.2 hc
      refine zr_iconst (pc' := 15) dX11_raw_14 rfl ?_
      exact zr_ireturn dX11_raw_15 rfl rfl trivial (Nat.le_refl _) (Nat.le_refl _) (And.intro rfl h)
set_option maxRecDepth 20000 in
theorem vcX11_tries {E : zE} {M : zM} {Q : Int → zM → Prop} (l1 l2 l3 : Int)
    (h : zIs_6 (M 0 2) ∧ (zP E mX11_within [.inl l1, .inl 0, .inl ((M ((M 0 2).toNat) 8) - 1)] M (fun r2 M3 => ((zR r2) ∧ ((r2 = 0 → Q (-9223372036854775808) M3) ∧ (¬ r2 = 0 → (zP E mX11_isHour [.inl l2] M3 (fun r4 M5 => ((zR r4) ∧ ((r4 = 0 → Q (-9223372036854775808) M5) ∧ (¬ r4 = 0 → (zP E mX11_isHour [.inl l3] M5 (fun r6 M7 => ((zR r6) ∧ ((¬ r6 = 0 → zIs_6 (M7 0 2) ∧ (zP E mX6_value [.inr (.inr (M7 0 2)), .inl l1, .inr (.inr 20), .inl l2, .inl l3] M7 (fun r9 M10 => Q r9 M10))) ∧ (r6 = 0 → Q (-9223372036854775808) M7))))))))))))))))
    : zP E mX11_tries [.inr (.inr 0), .inl l1, .inl l2, .inl l3] M Q := by
  refine zP_of (by decide +kernel) rfl (Nat.le_of_ble_eq_true rfl) ?_
  show zA E zNN (0, 0) mX11_tries 0 [(0, .inr (.inr 0)), (1, .inl l1), (2, .inl l2), (3, .inl l3)] [] M (zQ Q)
  refine zr_iload_n (pc' := 1) (i := 1) dX11_tries_0 rfl rfl rfl ?_
  refine zr_iconst (pc' := 2) dX11_tries_1 rfl ?_
  refine zr_aload_n (pc' := 3) (i := 0) dX11_tries_2 rfl rfl rfl ?_
  refine zr_get (pc' := 6) dX11_tries_3 rfl ps_0 kd_0 fl_X11_19 kc_11 (gv_0_2 _) ?_
  have hi1 := h.1
  have h := h.2
  refine zr_get (pc' := 9) dX11_tries_6 rfl (is_6_pos hi1) (is_6_kd hi1) fl_X11_149 kc_6 (is_6_gv_8 hi1 _) ?_
  refine zr_iconst (pc' := 10) dX11_tries_9 rfl ?_
  refine zr_isub (pc' := 11) dX11_tries_10 rfl ?_
  refine zn_callS (pc' := 14) (args := [.inl l1, .inl 0, .inl ((M ((M 0 2).toNat) 8) - 1)]) (st := []) (st' := fun r2 => [.inl r2]) dX11_tries_11 rfl cs_X11_120 ⟨rfl, rfl, by decide, by decide⟩ rfl rfl rfl (Nat.le_of_ble_eq_true rfl) (fun _ => rfl) h ?_
  intro r2 M3 h
  refine zr_if_eq (tgt := 31) (pc' := 17) dX11_tries_14 rfl rfl h.1 (fun hc => ?_) (fun hc => ?_)
  · have h := h.2.1 hc
    refine zr_ldc2 (pc' := 34) (x := -9223372036854775808) dX11_tries_31 rfl ci_X11_152 ?_
    exact zr_lreturn dX11_tries_34 rfl (Nat.le_refl _) (Nat.le_refl _) (And.intro rfl h)
  · have h := h.2.2 hc
    refine zr_iload_n (pc' := 18) (i := 2) dX11_tries_17 rfl rfl rfl ?_
    refine zn_callS (pc' := 21) (args := [.inl l2]) (st := []) (st' := fun r4 => [.inl r4]) dX11_tries_18 rfl cs_X11_138 ⟨rfl, rfl, by decide, by decide⟩ rfl rfl rfl (Nat.le_of_ble_eq_true rfl) (fun _ => rfl) h ?_
    intro r4 M5 h
    refine zr_if_eq (tgt := 31) (pc' := 24) dX11_tries_21 rfl rfl h.1 (fun hc => ?_) (fun hc => ?_)
    · have h := h.2.1 hc
      refine zr_ldc2 (pc' := 34) (x := -9223372036854775808) dX11_tries_31 rfl ci_X11_152 ?_
      exact zr_lreturn dX11_tries_34 rfl (Nat.le_refl _) (Nat.le_refl _) (And.intro rfl h)
    · have h := h.2.2 hc
      refine zr_iload_n (pc' := 25) (i := 3) dX11_tries_24 rfl rfl rfl ?_
      refine zn_callS (pc' := 28) (args := [.inl l3]) (st := []) (st' := fun r6 => [.inl r6]) dX11_tries_25 rfl cs_X11_138 ⟨rfl, rfl, by decide, by decide⟩ rfl rfl rfl (Nat.le_of_ble_eq_true rfl) (fun _ => rfl) h ?_
      intro r6 M7 h
      refine zr_if_ne (tgt := 35) (pc' := 31) dX11_tries_28 rfl rfl h.1 (fun hc => ?_) (fun hc => ?_)
      · have h := h.2.1 hc
        refine zr_aload_n (pc' := 36) (i := 0) dX11_tries_35 rfl rfl rfl ?_
        refine zr_get (pc' := 39) dX11_tries_36 rfl ps_0 kd_0 fl_X11_19 kc_11 (gv_0_2 _) ?_
        refine zr_iload_n (pc' := 40) (i := 1) dX11_tries_39 rfl rfl rfl ?_
        refine zr_aload_n (pc' := 41) (i := 0) dX11_tries_40 rfl rfl rfl ?_
        refine zr_get (pc' := 44) dX11_tries_41 rfl ps_0 kd_0 fl_X11_29 kc_11 (gv_0_4 _) ?_
        refine zr_iload_n (pc' := 45) (i := 2) dX11_tries_44 rfl rfl rfl ?_
        refine zr_iload_n (pc' := 46) (i := 3) dX11_tries_45 rfl rfl rfl ?_
        have hi8 := h.1
        have h := h.2
        refine zn_callV (pc' := 49) (args := [.inl l1, .inr (.inr 20), .inl l2, .inl l3]) (st := []) (st' := fun r9 => [.inr (.inl r9)]) dX11_tries_46 rfl cv_X11_154 ⟨rfl, rfl, by decide, by decide⟩ rfl (is_6_pos hi8) (is_6_kd hi8) rfl rfl (Nat.le_of_ble_eq_true rfl) (fun _ => rfl) h ?_
        intro r9 M10 h
        exact zr_lreturn dX11_tries_49 rfl (Nat.le_refl _) (Nat.le_refl _) (And.intro rfl h)
      · have h := h.2.2 hc
        refine zr_ldc2 (pc' := 34) (x := -9223372036854775808) dX11_tries_31 rfl ci_X11_152 ?_
        exact zr_lreturn dX11_tries_34 rfl (Nat.le_refl _) (Nat.le_refl _) (And.intro rfl h)
set_option maxRecDepth 20000 in
theorem vcX11_level {E : zE} {M : zM} {Q : Int → zM → Prop} (l1 : Int) (I25 : Nat → Int → Int → Int → zM → Prop)
    (h : (zP E mX11_isHour [.inl l1] M (fun r1 M2 => ((zR r1) ∧ ((¬ r1 = 0 → zIs_6 (M2 0 2) ∧ (zR (l1 - (M2 ((M2 0 2).toNat) 10))) ∧ ∃ n', I25 n' l1 0 (if 0 < (l1 - (M2 ((M2 0 2).toNat) 10)) then (l1 - (M2 ((M2 0 2).toNat) 10)) else 0) M2) ∧ (r1 = 0 → Q (-1) M2))))))
    (h25 : ∀ (n : Nat) (l1 l2 l3 : Int) (M : zM), I25 n l1 l2 l3 M → ((zR l3 ∧ zR l1) ∧ ((l1 < l3 → Q l2 M) ∧ (l3 ≤ l1 → (zP E mX11_rawInOwnHour [.inr (.inr 0), .inl l3] M (fun r4 M5 => (zR l2 ∧ zR r4) ∧ ∃ n', n' < n ∧ I25 n' l1 (if l2 < r4 then r4 else l2) (l3 + 1) M5))))))
    : zP E mX11_level [.inr (.inr 0), .inl l1] M Q := by
  have key : ∀ n : Nat, (∀ (l1 l2 l3 : Int) (M : zM), I25 n l1 l2 l3 M → zA E zNN (0, 0) mX11_level 25 [(0, .inr (.inr 0)), (1, .inl l1), (2, .inl l2), (3, .inl l3)] [] M (zQ Q)) := by
    intro n
    induction n using Nat.strongRecOn with
    | ind n ih =>
      intro l1 l2 l3 M h
      have h := h25 n l1 l2 l3 M h
      refine zr_iload_n (pc' := 26) (i := 3) dX11_level_25 rfl rfl rfl ?_
      refine zr_iload_n (pc' := 27) (i := 1) dX11_level_26 rfl rfl rfl ?_
      refine zr_icmp_gt (tgt := 46) (pc' := 30) dX11_level_27 rfl rfl h.1.1 h.1.2 (fun hc => ?_) (fun hc => ?_)
      · have h := h.2.1 hc
        refine zr_iload_n (pc' := 47) (i := 2) dX11_level_46 rfl rfl rfl ?_
        exact zr_ireturn dX11_level_47 rfl rfl trivial (Nat.le_refl _) (Nat.le_refl _) (And.intro rfl h)
      · have h := h.2.2 hc
        refine zr_iload_n (pc' := 31) (i := 2) dX11_level_30 rfl rfl rfl ?_
        refine zr_aload_n (pc' := 32) (i := 0) dX11_level_31 rfl rfl rfl ?_
        refine zr_iload_n (pc' := 33) (i := 3) dX11_level_32 rfl rfl rfl ?_
        refine zn_callV (pc' := 36) (args := [.inl l3]) (st := [.inl l2]) (st' := fun r4 => [.inl r4, .inl l2]) dX11_level_33 rfl cv_X11_167 ⟨rfl, rfl, by decide, by decide⟩ rfl ps_0 kd_0 rfl rfl (Nat.le_of_ble_eq_true rfl) (fun _ => rfl) h ?_
        intro r4 M5 h
        refine zr_max (pc' := 39) dX11_level_36 rfl ml_X11_161.1 ml_X11_161.2.1 ml_X11_161.2.2.1 ml_X11_161.2.2.2 (by decide) (Nat.le_of_ble_eq_true rfl) (Nat.zero_le _) (Nat.zero_le _) h.1.1 h.1.2 ?_
        have h := h.2
        refine zr_istore_n (pc' := 40) (i := 2) (al' := [(2, .inl (if l2 < r4 then r4 else l2)), (0, .inr (.inr 0)), (1, .inl l1), (3, .inl l3)]) dX11_level_39 rfl rfl (by decide) rfl ?_
        refine zr_iinc (pc' := 43) (al' := [(3, .inl (l3 + 1)), (2, .inl (if l2 < r4 then r4 else l2)), (0, .inr (.inr 0)), (1, .inl l1)]) dX11_level_40 rfl rfl (by decide) rfl ?_
        refine zr_goto (pc' := 25) dX11_level_43 rfl ?_
        obtain ⟨n', hn, h⟩ := h
        exact zn_al ((ih n' hn) _ _ _ _ h) ⟨rfl, rfl, rfl, rfl, trivial⟩
  refine zP_of (by decide +kernel) rfl (Nat.le_of_ble_eq_true rfl) ?_
  show zA E zNN (0, 0) mX11_level 0 [(0, .inr (.inr 0)), (1, .inl l1)] [] M (zQ Q)
  refine zr_iload_n (pc' := 1) (i := 1) dX11_level_0 rfl rfl rfl ?_
  refine zn_callS (pc' := 4) (args := [.inl l1]) (st := []) (st' := fun r1 => [.inl r1]) dX11_level_1 rfl cs_X11_138 ⟨rfl, rfl, by decide, by decide⟩ rfl rfl rfl (Nat.le_of_ble_eq_true rfl) (fun _ => rfl) h ?_
  intro r1 M2 h
  refine zr_if_ne (tgt := 9) (pc' := 7) dX11_level_4 rfl rfl h.1 (fun hc => ?_) (fun hc => ?_)
  · have h := h.2.1 hc
    refine zr_iconst (pc' := 10) dX11_level_9 rfl ?_
    refine zr_istore_n (pc' := 11) (i := 2) (al' := [(2, .inl 0), (0, .inr (.inr 0)), (1, .inl l1)]) dX11_level_10 rfl rfl (by decide) rfl ?_
    refine zr_iconst (pc' := 12) dX11_level_11 rfl ?_
    refine zr_iload_n (pc' := 13) (i := 1) dX11_level_12 rfl rfl rfl ?_
    refine zr_aload_n (pc' := 14) (i := 0) dX11_level_13 rfl rfl rfl ?_
    refine zr_get (pc' := 17) dX11_level_14 rfl ps_0 kd_0 fl_X11_19 kc_11 (gv_0_2 _) ?_
    have hi3 := h.1
    have h := h.2
    refine zr_get (pc' := 20) dX11_level_17 rfl (is_6_pos hi3) (is_6_kd hi3) fl_X11_158 kc_6 (is_6_gv_10 hi3 _) ?_
    refine zr_isub (pc' := 21) dX11_level_20 rfl ?_
    refine zr_max (pc' := 24) dX11_level_21 rfl ml_X11_161.1 ml_X11_161.2.1 ml_X11_161.2.2.1 ml_X11_161.2.2.2 (by decide) (Nat.le_of_ble_eq_true rfl) (Nat.zero_le _) (Nat.zero_le _) (zRd rfl) h.1 ?_
    have h := h.2
    refine zr_istore_n (pc' := 25) (i := 3) (al' := [(3, .inl (if 0 < (l1 - (M2 ((M2 0 2).toNat) 10)) then (l1 - (M2 ((M2 0 2).toNat) 10)) else 0)), (2, .inl 0), (0, .inr (.inr 0)), (1, .inl l1)]) dX11_level_24 rfl rfl (by decide) rfl ?_
    obtain ⟨n', h⟩ := h
    exact zn_al ((key n') _ _ _ _ h) ⟨rfl, rfl, rfl, rfl, trivial⟩
  · have h := h.2.2 hc
    refine zr_iconst (pc' := 8) dX11_level_7 rfl ?_
    exact zr_ireturn dX11_level_8 rfl rfl trivial (Nat.le_refl _) (Nat.le_refl _) (And.intro rfl h)
set_option maxRecDepth 20000 in
theorem vcX11_land {E : zE} {M : zM} {Q : Int → zM → Prop} (l1 l2 : Int)
    (h : (zP E mX1_lay [.inr (.inr 28), .inl l1, .inl l2] M (fun r1 M2 => ((zR r1) ∧ ((¬ r1 = 0 → (∀ M3, M3 = zup M2 0 11 0 → (zP E mX3_clear [.inr (.inr 44)] M3 (fun r4 M5 => (zP E mX11_lavaChanged [.inr (.inr 0)] M5 (fun r6 M7 => Q 1 M7)))))) ∧ (r1 = 0 → Q 0 M2))))))
    : zP E mX11_land [.inr (.inr 0), .inl l1, .inl l2] M Q := by
  refine zP_of (by decide +kernel) rfl (Nat.le_of_ble_eq_true rfl) ?_
  show zA E zNN (0, 0) mX11_land 0 [(0, .inr (.inr 0)), (1, .inl l1), (2, .inl l2)] [] M (zQ Q)
  refine zr_aload_n (pc' := 1) (i := 0) dX11_land_0 rfl rfl rfl ?_
  refine zr_get (pc' := 4) dX11_land_1 rfl ps_0 kd_0 fl_X11_40 kc_11 (gv_0_8 _) ?_
  refine zr_iload_n (pc' := 5) (i := 1) dX11_land_4 rfl rfl rfl ?_
  refine zr_iload_n (pc' := 6) (i := 2) dX11_land_5 rfl rfl rfl ?_
  refine zn_callV (pc' := 9) (args := [.inl l1, .inl l2]) (st := []) (st' := fun r1 => [.inl r1]) dX11_land_6 rfl cv_X11_170 ⟨rfl, rfl, by decide, by decide⟩ rfl ps_28 kd_28 rfl rfl (Nat.le_of_ble_eq_true rfl) (fun _ => rfl) h ?_
  intro r1 M2 h
  refine zr_if_ne (tgt := 14) (pc' := 12) dX11_land_9 rfl rfl h.1 (fun hc => ?_) (fun hc => ?_)
  · have h := h.2.1 hc
    refine zr_aload_n (pc' := 15) (i := 0) dX11_land_14 rfl rfl rfl ?_
    refine zr_iconst (pc' := 16) dX11_land_15 rfl ?_
    refine zr_put (pc' := 19) dX11_land_16 rfl ps_0 kd_0 fl_X11_174 kc_11 rfl nf_0_11 rfl trivial (fun M3 hM1 => ?_)
    have h := h M3 hM1
    refine zr_aload_n (pc' := 20) (i := 0) dX11_land_19 rfl rfl rfl ?_
    refine zr_get (pc' := 23) dX11_land_20 rfl ps_0 kd_0 fl_X11_64 kc_11 (gv_0_13 _) ?_
    refine zn_callV (pc' := 26) (args := []) (st := []) (st' := fun _ => []) dX11_land_23 rfl cv_X11_177 ⟨rfl, rfl, by decide, by decide⟩ rfl ps_44 kd_44 rfl rfl (Nat.le_of_ble_eq_true rfl) (fun _ => rfl) h ?_
    intro r4 M5 h
    refine zr_aload_n (pc' := 27) (i := 0) dX11_land_26 rfl rfl rfl ?_
    refine zn_callV (pc' := 30) (args := []) (st := []) (st' := fun _ => []) dX11_land_27 rfl cv_X11_180 ⟨rfl, rfl, by decide, by decide⟩ rfl ps_0 kd_0 rfl rfl (Nat.le_of_ble_eq_true rfl) (fun _ => rfl) h ?_
    intro r6 M7 h
    refine zr_iconst (pc' := 31) dX11_land_30 rfl ?_
    exact zr_ireturn dX11_land_31 rfl rfl (Or.inr rfl) (Nat.le_refl _) (Nat.le_refl _) (And.intro rfl h)
  · have h := h.2.2 hc
    refine zr_iconst (pc' := 13) dX11_land_12 rfl ?_
    exact zr_ireturn dX11_land_13 rfl rfl (Or.inl rfl) (Nat.le_refl _) (Nat.le_refl _) (And.intro rfl h)
set_option maxRecDepth 20000 in
theorem vcX11_ground {E : zE} {M : zM} {Q : Int → zM → Prop} (l1 l2 l3 : Int)
    (h : (zP E mX1_build [.inr (.inr 28), .inl l1, .inl l2, .inl l3] M (fun r1 M2 => ((zR r1) ∧ ((r1 = 0 → ((r1 = 0 ∨ r1 = 1) ∧ Q r1 M2)) ∧ (¬ r1 = 0 → (zP E mX11_lavaChanged [.inr (.inr 0)] M2 (fun r3 M4 => ((r1 = 0 ∨ r1 = 1) ∧ Q r1 M4)))))))))
    : zP E mX11_ground [.inr (.inr 0), .inl l1, .inl l2, .inl l3] M Q := by
  refine zP_of (by decide +kernel) rfl (Nat.le_of_ble_eq_true rfl) ?_
  show zA E zNN (0, 0) mX11_ground 0 [(0, .inr (.inr 0)), (1, .inl l1), (2, .inl l2), (3, .inl l3)] [] M (zQ Q)
  refine zr_aload_n (pc' := 1) (i := 0) dX11_ground_0 rfl rfl rfl ?_
  refine zr_get (pc' := 4) dX11_ground_1 rfl ps_0 kd_0 fl_X11_40 kc_11 (gv_0_8 _) ?_
  refine zr_iload_n (pc' := 5) (i := 1) dX11_ground_4 rfl rfl rfl ?_
  refine zr_iload_n (pc' := 6) (i := 2) dX11_ground_5 rfl rfl rfl ?_
  refine zr_iload_n (pc' := 7) (i := 3) dX11_ground_6 rfl rfl rfl ?_
  refine zn_callV (pc' := 10) (args := [.inl l1, .inl l2, .inl l3]) (st := []) (st' := fun r1 => [.inl r1]) dX11_ground_7 rfl cv_X11_183 ⟨rfl, rfl, by decide, by decide⟩ rfl ps_28 kd_28 rfl rfl (Nat.le_of_ble_eq_true rfl) (fun _ => rfl) h ?_
  intro r1 M2 h
  refine zr_istore (pc' := 12) (al' := [(4, .inl r1), (0, .inr (.inr 0)), (1, .inl l1), (2, .inl l2), (3, .inl l3)]) dX11_ground_10 rfl (by decide) rfl ?_
  refine zr_iload (pc' := 14) dX11_ground_12 rfl rfl ?_
  refine zr_if_eq (tgt := 21) (pc' := 17) dX11_ground_14 rfl rfl h.1 (fun hc => ?_) (fun hc => ?_)
  · have h := h.2.1 hc
    refine zr_iload (pc' := 23) dX11_ground_21 rfl rfl ?_
    exact zr_ireturn dX11_ground_23 rfl rfl h.1 (Nat.le_refl _) (Nat.le_refl _) (And.intro rfl h.2)
  · have h := h.2.2 hc
    refine zr_aload_n (pc' := 18) (i := 0) dX11_ground_17 rfl rfl rfl ?_
    refine zn_callV (pc' := 21) (args := []) (st := []) (st' := fun _ => []) dX11_ground_18 rfl cv_X11_180 ⟨rfl, rfl, by decide, by decide⟩ rfl ps_0 kd_0 rfl rfl (Nat.le_of_ble_eq_true rfl) (fun _ => rfl) h ?_
    intro r3 M4 h
    refine zr_iload (pc' := 23) dX11_ground_21 rfl rfl ?_
    exact zr_ireturn dX11_ground_23 rfl rfl h.1 (Nat.le_refl _) (Nat.le_refl _) (And.intro rfl h.2)
set_option maxRecDepth 20000 in
theorem vcX11_work {E : zE} {M : zM} {Q : Int → zM → Prop} (l1 l2 l3 : Int)
    (h : ((zR l3) ∧ ((l3 = 0 → (zP E mX1_hasWork [.inr (.inr 28), .inl l1, .inl l2] M (fun r1 M2 => ((zR r1) ∧ ((r1 = 0 → ((r1 = 0 ∨ r1 = 1) ∧ Q r1 M2)) ∧ (¬ r1 = 0 → (zP E mX1_setWork [.inr (.inr 28), .inl l1, .inl l2, .inl l3] M2 (fun r3 M4 => (zP E mX11_lavaChanged [.inr (.inr 0)] M4 (fun r5 M6 => ((r1 = 0 ∨ r1 = 1) ∧ Q r1 M6))))))))))) ∧ (¬ l3 = 0 → (zP E mX1_mayPut [.inr (.inr 28), .inl l1, .inl l2] M (fun r7 M8 => ((zR r7) ∧ ((r7 = 0 → ((r7 = 0 ∨ r7 = 1) ∧ Q r7 M8)) ∧ (¬ r7 = 0 → (zP E mX1_setWork [.inr (.inr 28), .inl l1, .inl l2, .inl l3] M8 (fun r9 M10 => (zP E mX11_lavaChanged [.inr (.inr 0)] M10 (fun r11 M12 => ((r7 = 0 ∨ r7 = 1) ∧ Q r7 M12))))))))))))))
    : zP E mX11_work [.inr (.inr 0), .inl l1, .inl l2, .inl l3] M Q := by
  refine zP_of (by decide +kernel) rfl (Nat.le_of_ble_eq_true rfl) ?_
  show zA E zNN (0, 0) mX11_work 0 [(0, .inr (.inr 0)), (1, .inl l1), (2, .inl l2), (3, .inl l3)] [] M (zQ Q)
  refine zr_iload_n (pc' := 1) (i := 3) dX11_work_0 rfl rfl rfl ?_
  refine zr_if_eq (tgt := 16) (pc' := 4) dX11_work_1 rfl rfl h.1 (fun hc => ?_) (fun hc => ?_)
  · have h := h.2.1 hc
    refine zr_aload_n (pc' := 17) (i := 0) dX11_work_16 rfl rfl rfl ?_
    refine zr_get (pc' := 20) dX11_work_17 rfl ps_0 kd_0 fl_X11_40 kc_11 (gv_0_8 _) ?_
    refine zr_iload_n (pc' := 21) (i := 1) dX11_work_20 rfl rfl rfl ?_
    refine zr_iload_n (pc' := 22) (i := 2) dX11_work_21 rfl rfl rfl ?_
    refine zn_callV (pc' := 25) (args := [.inl l1, .inl l2]) (st := []) (st' := fun r1 => [.inl r1]) dX11_work_22 rfl cv_X11_190 ⟨rfl, rfl, by decide, by decide⟩ rfl ps_28 kd_28 rfl rfl (Nat.le_of_ble_eq_true rfl) (fun _ => rfl) h ?_
    intro r1 M2 h
    refine zr_istore (pc' := 27) (al' := [(4, .inl r1), (0, .inr (.inr 0)), (1, .inl l1), (2, .inl l2), (3, .inl l3)]) dX11_work_25 rfl (by decide) rfl ?_
    refine zr_iload (pc' := 29) dX11_work_27 rfl rfl ?_
    refine zr_if_eq (tgt := 46) (pc' := 32) dX11_work_29 rfl rfl h.1 (fun hc => ?_) (fun hc => ?_)
    · have h := h.2.1 hc
      refine zr_iload (pc' := 48) dX11_work_46 rfl rfl ?_
      exact zr_ireturn dX11_work_48 rfl rfl h.1 (Nat.le_refl _) (Nat.le_refl _) (And.intro rfl h.2)
    · have h := h.2.2 hc
      refine zr_aload_n (pc' := 33) (i := 0) dX11_work_32 rfl rfl rfl ?_
      refine zr_get (pc' := 36) dX11_work_33 rfl ps_0 kd_0 fl_X11_40 kc_11 (gv_0_8 _) ?_
      refine zr_iload_n (pc' := 37) (i := 1) dX11_work_36 rfl rfl rfl ?_
      refine zr_iload_n (pc' := 38) (i := 2) dX11_work_37 rfl rfl rfl ?_
      refine zr_iload_n (pc' := 39) (i := 3) dX11_work_38 rfl rfl rfl ?_
      refine zn_callV (pc' := 42) (args := [.inl l1, .inl l2, .inl l3]) (st := []) (st' := fun _ => []) dX11_work_39 rfl cv_X11_193 ⟨rfl, rfl, by decide, by decide⟩ rfl ps_28 kd_28 rfl rfl (Nat.le_of_ble_eq_true rfl) (fun _ => rfl) h ?_
      intro r3 M4 h
      refine zr_aload_n (pc' := 43) (i := 0) dX11_work_42 rfl rfl rfl ?_
      refine zn_callV (pc' := 46) (args := []) (st := []) (st' := fun _ => []) dX11_work_43 rfl cv_X11_180 ⟨rfl, rfl, by decide, by decide⟩ rfl ps_0 kd_0 rfl rfl (Nat.le_of_ble_eq_true rfl) (fun _ => rfl) h ?_
      intro r5 M6 h
      refine zr_iload (pc' := 48) dX11_work_46 rfl rfl ?_
      exact zr_ireturn dX11_work_48 rfl rfl h.1 (Nat.le_refl _) (Nat.le_refl _) (And.intro rfl h.2)
  · have h := h.2.2 hc
    refine zr_aload_n (pc' := 5) (i := 0) dX11_work_4 rfl rfl rfl ?_
    refine zr_get (pc' := 8) dX11_work_5 rfl ps_0 kd_0 fl_X11_40 kc_11 (gv_0_8 _) ?_
    refine zr_iload_n (pc' := 9) (i := 1) dX11_work_8 rfl rfl rfl ?_
    refine zr_iload_n (pc' := 10) (i := 2) dX11_work_9 rfl rfl rfl ?_
    refine zn_callV (pc' := 13) (args := [.inl l1, .inl l2]) (st := []) (st' := fun r7 => [.inl r7]) dX11_work_10 rfl cv_X11_186 ⟨rfl, rfl, by decide, by decide⟩ rfl ps_28 kd_28 rfl rfl (Nat.le_of_ble_eq_true rfl) (fun _ => rfl) h ?_
    intro r7 M8 h
    refine zr_goto (pc' := 25) dX11_work_13 rfl ?_
    refine zr_istore (pc' := 27) (al' := [(4, .inl r7), (0, .inr (.inr 0)), (1, .inl l1), (2, .inl l2), (3, .inl l3)]) dX11_work_25 rfl (by decide) rfl ?_
    refine zr_iload (pc' := 29) dX11_work_27 rfl rfl ?_
    refine zr_if_eq (tgt := 46) (pc' := 32) dX11_work_29 rfl rfl h.1 (fun hc => ?_) (fun hc => ?_)
    · have h := h.2.1 hc
      refine zr_iload (pc' := 48) dX11_work_46 rfl rfl ?_
      exact zr_ireturn dX11_work_48 rfl rfl h.1 (Nat.le_refl _) (Nat.le_refl _) (And.intro rfl h.2)
    · have h := h.2.2 hc
      refine zr_aload_n (pc' := 33) (i := 0) dX11_work_32 rfl rfl rfl ?_
      refine zr_get (pc' := 36) dX11_work_33 rfl ps_0 kd_0 fl_X11_40 kc_11 (gv_0_8 _) ?_
      refine zr_iload_n (pc' := 37) (i := 1) dX11_work_36 rfl rfl rfl ?_
      refine zr_iload_n (pc' := 38) (i := 2) dX11_work_37 rfl rfl rfl ?_
      refine zr_iload_n (pc' := 39) (i := 3) dX11_work_38 rfl rfl rfl ?_
      refine zn_callV (pc' := 42) (args := [.inl l1, .inl l2, .inl l3]) (st := []) (st' := fun _ => []) dX11_work_39 rfl cv_X11_193 ⟨rfl, rfl, by decide, by decide⟩ rfl ps_28 kd_28 rfl rfl (Nat.le_of_ble_eq_true rfl) (fun _ => rfl) h ?_
      intro r9 M10 h
      refine zr_aload_n (pc' := 43) (i := 0) dX11_work_42 rfl rfl rfl ?_
      refine zn_callV (pc' := 46) (args := []) (st := []) (st' := fun _ => []) dX11_work_43 rfl cv_X11_180 ⟨rfl, rfl, by decide, by decide⟩ rfl ps_0 kd_0 rfl rfl (Nat.le_of_ble_eq_true rfl) (fun _ => rfl) h ?_
      intro r11 M12 h
      refine zr_iload (pc' := 48) dX11_work_46 rfl rfl ?_
      exact zr_ireturn dX11_work_48 rfl rfl h.1 (Nat.le_refl _) (Nat.le_refl _) (And.intro rfl h.2)
set_option maxRecDepth 20000 in
theorem vcX11_world {E : zE} {M : zM} {Q : Int → zM → Prop} (l1 l2 l3 l4 l5 : Int)
    (h : ((zR (M 0 11)) ∧ ((3 ≤ (M 0 11) → Q (-1) M) ∧ ((M 0 11) < 3 → (zP E mX11_isHour [.inl l1] M (fun r1 M2 => ((zR r1) ∧ ((r1 = 0 → Q (-1) M2) ∧ (¬ r1 = 0 → (zP E mX1_has [.inr (.inr 28), .inl l2] M2 (fun r3 M4 => ((zR r3) ∧ ((¬ r3 = 0 → (zP E mX11_within [.inl l3, .inl 1, .inl 99] M4 (fun r5 M6 => ((zR r5) ∧ ((r5 = 0 → Q (-1) M6) ∧ (¬ r5 = 0 → (zP E mX11_within [.inl l4, .inl 1, .inl 12] M6 (fun r7 M8 => ((zR r7) ∧ ((r7 = 0 → Q (-1) M8) ∧ (¬ r7 = 0 → (zP E mX11_within [.inl l5, .inl 1, .inl 99] M8 (fun r9 M10 => ((zR r9) ∧ ((¬ r9 = 0 → (0 ≤ M10 0 11 ∧ M10 0 11 < 3) ∧ zIs_10 (M10 33 ((M10 0 11).toNat)) ∧ (∀ M12, M12 = zup M10 ((M10 33 ((M10 0 11).toNat)).toNat) 0 l1 → (∀ M13, M13 = zup M12 ((M10 33 ((M10 0 11).toNat)).toNat) 1 l2 → (∀ M14, M14 = zup M13 ((M10 33 ((M10 0 11).toNat)).toNat) 2 l3 → (∀ M15, M15 = zup M14 ((M10 33 ((M10 0 11).toNat)).toNat) 3 l4 → (∀ M16, M16 = zup M15 ((M10 33 ((M10 0 11).toNat)).toNat) 4 l5 → (∀ M17, M17 = zup M16 0 11 ((M16 0 11) + 1) → (zP E mX11_lavaChanged [.inr (.inr 0)] M17 (fun r18 M19 => Q ((M19 0 11) - 1) M19))))))))) ∧ (r9 = 0 → Q (-1) M10)))))))))))))))) ∧ (r3 = 0 → Q (-1) M4))))))))))))))
    : zP E mX11_world [.inr (.inr 0), .inl l1, .inl l2, .inl l3, .inl l4, .inl l5] M Q := by
  refine zP_of (by decide +kernel) rfl (Nat.le_of_ble_eq_true rfl) ?_
  show zA E zNN (0, 0) mX11_world 0 [(0, .inr (.inr 0)), (1, .inl l1), (2, .inl l2), (3, .inl l3), (4, .inl l4), (5, .inl l5)] [] M (zQ Q)
  refine zr_aload_n (pc' := 1) (i := 0) dX11_world_0 rfl rfl rfl ?_
  refine zr_get (pc' := 4) dX11_world_1 rfl ps_0 kd_0 fl_X11_174 kc_11 (gv_0_11 _) ?_
  refine zr_iconst (pc' := 5) dX11_world_4 rfl ?_
  refine zr_icmp_ge (tgt := 26) (pc' := 8) dX11_world_5 rfl rfl h.1 (zRd rfl) (fun hc => ?_) (fun hc => ?_)
  · have h := h.2.1 hc
    refine zr_iconst (pc' := 27) dX11_world_26 rfl ?_
    exact zr_ireturn dX11_world_27 rfl rfl trivial (Nat.le_refl _) (Nat.le_refl _) (And.intro rfl h)
  · have h := h.2.2 hc
    refine zr_iload_n (pc' := 9) (i := 1) dX11_world_8 rfl rfl rfl ?_
    refine zn_callS (pc' := 12) (args := [.inl l1]) (st := []) (st' := fun r1 => [.inl r1]) dX11_world_9 rfl cs_X11_138 ⟨rfl, rfl, by decide, by decide⟩ rfl rfl rfl (Nat.le_of_ble_eq_true rfl) (fun _ => rfl) h ?_
    intro r1 M2 h
    refine zr_if_eq (tgt := 26) (pc' := 15) dX11_world_12 rfl rfl h.1 (fun hc => ?_) (fun hc => ?_)
    · have h := h.2.1 hc
      refine zr_iconst (pc' := 27) dX11_world_26 rfl ?_
      exact zr_ireturn dX11_world_27 rfl rfl trivial (Nat.le_refl _) (Nat.le_refl _) (And.intro rfl h)
    · have h := h.2.2 hc
      refine zr_aload_n (pc' := 16) (i := 0) dX11_world_15 rfl rfl rfl ?_
      refine zr_get (pc' := 19) dX11_world_16 rfl ps_0 kd_0 fl_X11_40 kc_11 (gv_0_8 _) ?_
      refine zr_iload_n (pc' := 20) (i := 2) dX11_world_19 rfl rfl rfl ?_
      refine zn_callV (pc' := 23) (args := [.inl l2]) (st := []) (st' := fun r3 => [.inl r3]) dX11_world_20 rfl cv_X11_197 ⟨rfl, rfl, by decide, by decide⟩ rfl ps_28 kd_28 rfl rfl (Nat.le_of_ble_eq_true rfl) (fun _ => rfl) h ?_
      intro r3 M4 h
      refine zr_if_ne (tgt := 28) (pc' := 26) dX11_world_23 rfl rfl h.1 (fun hc => ?_) (fun hc => ?_)
      · have h := h.2.1 hc
        refine zr_iload_n (pc' := 29) (i := 3) dX11_world_28 rfl rfl rfl ?_
        refine zr_iconst (pc' := 30) dX11_world_29 rfl ?_
        refine zr_bipush (pc' := 32) dX11_world_30 rfl rfl ?_
        refine zn_callS (pc' := 35) (args := [.inl l3, .inl 1, .inl 99]) (st := []) (st' := fun r5 => [.inl r5]) dX11_world_32 rfl cs_X11_120 ⟨rfl, rfl, by decide, by decide⟩ rfl rfl rfl (Nat.le_of_ble_eq_true rfl) (fun _ => rfl) h ?_
        intro r5 M6 h
        refine zr_if_eq (tgt := 60) (pc' := 38) dX11_world_35 rfl rfl h.1 (fun hc => ?_) (fun hc => ?_)
        · have h := h.2.1 hc
          refine zr_iconst (pc' := 61) dX11_world_60 rfl ?_
          exact zr_ireturn dX11_world_61 rfl rfl trivial (Nat.le_refl _) (Nat.le_refl _) (And.intro rfl h)
        · have h := h.2.2 hc
          refine zr_iload (pc' := 40) dX11_world_38 rfl rfl ?_
          refine zr_iconst (pc' := 41) dX11_world_40 rfl ?_
          refine zr_bipush (pc' := 43) dX11_world_41 rfl rfl ?_
          refine zn_callS (pc' := 46) (args := [.inl l4, .inl 1, .inl 12]) (st := []) (st' := fun r7 => [.inl r7]) dX11_world_43 rfl cs_X11_120 ⟨rfl, rfl, by decide, by decide⟩ rfl rfl rfl (Nat.le_of_ble_eq_true rfl) (fun _ => rfl) h ?_
          intro r7 M8 h
          refine zr_if_eq (tgt := 60) (pc' := 49) dX11_world_46 rfl rfl h.1 (fun hc => ?_) (fun hc => ?_)
          · have h := h.2.1 hc
            refine zr_iconst (pc' := 61) dX11_world_60 rfl ?_
            exact zr_ireturn dX11_world_61 rfl rfl trivial (Nat.le_refl _) (Nat.le_refl _) (And.intro rfl h)
          · have h := h.2.2 hc
            refine zr_iload (pc' := 51) dX11_world_49 rfl rfl ?_
            refine zr_iconst (pc' := 52) dX11_world_51 rfl ?_
            refine zr_bipush (pc' := 54) dX11_world_52 rfl rfl ?_
            refine zn_callS (pc' := 57) (args := [.inl l5, .inl 1, .inl 99]) (st := []) (st' := fun r9 => [.inl r9]) dX11_world_54 rfl cs_X11_120 ⟨rfl, rfl, by decide, by decide⟩ rfl rfl rfl (Nat.le_of_ble_eq_true rfl) (fun _ => rfl) h ?_
            intro r9 M10 h
            refine zr_if_ne (tgt := 62) (pc' := 60) dX11_world_57 rfl rfl h.1 (fun hc => ?_) (fun hc => ?_)
            · have h := h.2.1 hc
              refine zr_aload_n (pc' := 63) (i := 0) dX11_world_62 rfl rfl rfl ?_
              refine zr_get (pc' := 66) dX11_world_63 rfl ps_0 kd_0 fl_X11_46 kc_11 (gv_0_9 _) ?_
              refine zr_aload_n (pc' := 67) (i := 0) dX11_world_66 rfl rfl rfl ?_
              refine zr_get (pc' := 70) dX11_world_67 rfl ps_0 kd_0 fl_X11_174 kc_11 (gv_0_11 _) ?_
              refine zr_aald (pc' := 71) (t0 := 5) dX11_world_70 rfl ps_33 kd_33 (by decide) (fun _ => rfl) (by decide) h.1.1 h.1.2 ?_
              have h := h.2
              refine zr_astore (pc' := 73) (al' := [(6, .inr (.inr (M10 33 ((M10 0 11).toNat)))), (0, .inr (.inr 0)), (1, .inl l1), (2, .inl l2), (3, .inl l3), (4, .inl l4), (5, .inl l5)]) dX11_world_71 rfl (by decide) rfl ?_
              refine zr_aload (pc' := 75) dX11_world_73 rfl rfl ?_
              refine zr_iload_n (pc' := 76) (i := 1) dX11_world_75 rfl rfl rfl ?_
              have hi11 := h.1
              have h := h.2
              refine zr_put (pc' := 79) dX11_world_76 rfl (is_10_pos hi11) (is_10_kd hi11) fl_X11_200 kc_10 rfl (is_10_nf_0 hi11) rfl trivial (fun M12 hM1 => ?_)
              have h := h M12 hM1
              refine zr_aload (pc' := 81) dX11_world_79 rfl rfl ?_
              refine zr_iload_n (pc' := 82) (i := 2) dX11_world_81 rfl rfl rfl ?_
              refine zr_put (pc' := 85) dX11_world_82 rfl (is_10_pos hi11) (is_10_kd hi11) fl_X11_203 kc_10 rfl (is_10_nf_1 hi11) rfl trivial (fun M13 hM1 => ?_)
              have h := h M13 hM1
              refine zr_aload (pc' := 87) dX11_world_85 rfl rfl ?_
              refine zr_iload_n (pc' := 88) (i := 3) dX11_world_87 rfl rfl rfl ?_
              refine zr_put (pc' := 91) dX11_world_88 rfl (is_10_pos hi11) (is_10_kd hi11) fl_X11_206 kc_10 rfl (is_10_nf_2 hi11) rfl trivial (fun M14 hM1 => ?_)
              have h := h M14 hM1
              refine zr_aload (pc' := 93) dX11_world_91 rfl rfl ?_
              refine zr_iload (pc' := 95) dX11_world_93 rfl rfl ?_
              refine zr_put (pc' := 98) dX11_world_95 rfl (is_10_pos hi11) (is_10_kd hi11) fl_X11_209 kc_10 rfl (is_10_nf_3 hi11) rfl trivial (fun M15 hM1 => ?_)
              have h := h M15 hM1
              refine zr_aload (pc' := 100) dX11_world_98 rfl rfl ?_
              refine zr_iload (pc' := 102) dX11_world_100 rfl rfl ?_
              refine zr_put (pc' := 105) dX11_world_102 rfl (is_10_pos hi11) (is_10_kd hi11) fl_X11_212 kc_10 rfl (is_10_nf_4 hi11) rfl trivial (fun M16 hM1 => ?_)
              have h := h M16 hM1
              refine zr_aload_n (pc' := 106) (i := 0) dX11_world_105 rfl rfl rfl ?_
              refine zr_dup (pc' := 107) dX11_world_106 rfl rfl ?_
              refine zr_get (pc' := 110) dX11_world_107 rfl ps_0 kd_0 fl_X11_174 kc_11 (gv_0_11 _) ?_
              refine zr_iconst (pc' := 111) dX11_world_110 rfl ?_
              refine zr_iadd (pc' := 112) dX11_world_111 rfl ?_
              refine zr_put (pc' := 115) dX11_world_112 rfl ps_0 kd_0 fl_X11_174 kc_11 rfl nf_0_11 rfl trivial (fun M17 hM1 => ?_)
              have h := h M17 hM1
              refine zr_aload_n (pc' := 116) (i := 0) dX11_world_115 rfl rfl rfl ?_
              refine zn_callV (pc' := 119) (args := []) (st := []) (st' := fun _ => []) dX11_world_116 rfl cv_X11_180 ⟨rfl, rfl, by decide, by decide⟩ rfl ps_0 kd_0 rfl rfl (Nat.le_of_ble_eq_true rfl) (fun _ => rfl) h ?_
              intro r18 M19 h
              refine zr_aload_n (pc' := 120) (i := 0) dX11_world_119 rfl rfl rfl ?_
              refine zr_get (pc' := 123) dX11_world_120 rfl ps_0 kd_0 fl_X11_174 kc_11 (gv_0_11 _) ?_
              refine zr_iconst (pc' := 124) dX11_world_123 rfl ?_
              refine zr_isub (pc' := 125) dX11_world_124 rfl ?_
              exact zr_ireturn dX11_world_125 rfl rfl trivial (Nat.le_refl _) (Nat.le_refl _) (And.intro rfl h)
            · have h := h.2.2 hc
              refine zr_iconst (pc' := 61) dX11_world_60 rfl ?_
              exact zr_ireturn dX11_world_61 rfl rfl trivial (Nat.le_refl _) (Nat.le_refl _) (And.intro rfl h)
      · have h := h.2.2 hc
        refine zr_iconst (pc' := 27) dX11_world_26 rfl ?_
        exact zr_ireturn dX11_world_27 rfl rfl trivial (Nat.le_refl _) (Nat.le_refl _) (And.intro rfl h)
set_option maxRecDepth 20000 in
theorem vcX11_lava {E : zE} {M : zM} {Q : Int → zM → Prop} (l1 l2 l3 l4 : Int)
    (h : (zP E mX11_isWorld [.inr (.inr 0), .inl l1] M (fun r1 M2 => ((zR r1) ∧ ((r1 = 0 → Q (-1000) M2) ∧ (¬ r1 = 0 → (zP E mX11_within [.inl l2, .inl 0, .inl 12] M2 (fun r3 M4 => ((zR r3) ∧ ((r3 = 0 → Q (-1000) M4) ∧ (¬ r3 = 0 → (zP E mX1_has [.inr (.inr 28), .inl l3] M4 (fun r5 M6 => ((zR r5) ∧ ((r5 = 0 → Q (-1000) M6) ∧ (¬ r5 = 0 → (zP E mX11_within [.inl l4, .inl 0, .inl 1] M6 (fun r7 M8 => ((zR r7) ∧ ((¬ r7 = 0 → (zP E mX11_steppedForecast [.inr (.inr 0), .inl l1] M8 (fun r9 M10 => ((zR l4) ∧ ((¬ l4 = 0 → zIs_0 r9 ∧ (zP E mX0_groundBehind [.inr (.inr r9), .inl l2, .inl l3] M10 (fun r12 M13 => Q r12 M13))) ∧ (l4 = 0 → zIs_0 r9 ∧ (zP E mX0_lavaBehind [.inr (.inr r9), .inl l2, .inl l3] M10 (fun r15 M16 => Q r15 M16)))))))) ∧ (r7 = 0 → Q (-1000) M8)))))))))))))))))))))
    : zP E mX11_lava [.inr (.inr 0), .inl l1, .inl l2, .inl l3, .inl l4] M Q := by
  refine zP_of (by decide +kernel) rfl (Nat.le_of_ble_eq_true rfl) ?_
  show zA E zNN (0, 0) mX11_lava 0 [(0, .inr (.inr 0)), (1, .inl l1), (2, .inl l2), (3, .inl l3), (4, .inl l4)] [] M (zQ Q)
  refine zr_aload_n (pc' := 1) (i := 0) dX11_lava_0 rfl rfl rfl ?_
  refine zr_iload_n (pc' := 2) (i := 1) dX11_lava_1 rfl rfl rfl ?_
  refine zn_callV (pc' := 5) (args := [.inl l1]) (st := []) (st' := fun r1 => [.inl r1]) dX11_lava_2 rfl cv_X11_215 ⟨rfl, rfl, by decide, by decide⟩ rfl ps_0 kd_0 rfl rfl (Nat.le_of_ble_eq_true rfl) (fun _ => rfl) h ?_
  intro r1 M2 h
  refine zr_if_eq (tgt := 39) (pc' := 8) dX11_lava_5 rfl rfl h.1 (fun hc => ?_) (fun hc => ?_)
  · have h := h.2.1 hc
    refine zr_sipush (pc' := 42) dX11_lava_39 rfl rfl ?_
    exact zr_ireturn dX11_lava_42 rfl rfl trivial (Nat.le_refl _) (Nat.le_refl _) (And.intro rfl h)
  · have h := h.2.2 hc
    refine zr_iload_n (pc' := 9) (i := 2) dX11_lava_8 rfl rfl rfl ?_
    refine zr_iconst (pc' := 10) dX11_lava_9 rfl ?_
    refine zr_bipush (pc' := 12) dX11_lava_10 rfl rfl ?_
    refine zn_callS (pc' := 15) (args := [.inl l2, .inl 0, .inl 12]) (st := []) (st' := fun r3 => [.inl r3]) dX11_lava_12 rfl cs_X11_120 ⟨rfl, rfl, by decide, by decide⟩ rfl rfl rfl (Nat.le_of_ble_eq_true rfl) (fun _ => rfl) h ?_
    intro r3 M4 h
    refine zr_if_eq (tgt := 39) (pc' := 18) dX11_lava_15 rfl rfl h.1 (fun hc => ?_) (fun hc => ?_)
    · have h := h.2.1 hc
      refine zr_sipush (pc' := 42) dX11_lava_39 rfl rfl ?_
      exact zr_ireturn dX11_lava_42 rfl rfl trivial (Nat.le_refl _) (Nat.le_refl _) (And.intro rfl h)
    · have h := h.2.2 hc
      refine zr_aload_n (pc' := 19) (i := 0) dX11_lava_18 rfl rfl rfl ?_
      refine zr_get (pc' := 22) dX11_lava_19 rfl ps_0 kd_0 fl_X11_40 kc_11 (gv_0_8 _) ?_
      refine zr_iload_n (pc' := 23) (i := 3) dX11_lava_22 rfl rfl rfl ?_
      refine zn_callV (pc' := 26) (args := [.inl l3]) (st := []) (st' := fun r5 => [.inl r5]) dX11_lava_23 rfl cv_X11_197 ⟨rfl, rfl, by decide, by decide⟩ rfl ps_28 kd_28 rfl rfl (Nat.le_of_ble_eq_true rfl) (fun _ => rfl) h ?_
      intro r5 M6 h
      refine zr_if_eq (tgt := 39) (pc' := 29) dX11_lava_26 rfl rfl h.1 (fun hc => ?_) (fun hc => ?_)
      · have h := h.2.1 hc
        refine zr_sipush (pc' := 42) dX11_lava_39 rfl rfl ?_
        exact zr_ireturn dX11_lava_42 rfl rfl trivial (Nat.le_refl _) (Nat.le_refl _) (And.intro rfl h)
      · have h := h.2.2 hc
        refine zr_iload (pc' := 31) dX11_lava_29 rfl rfl ?_
        refine zr_iconst (pc' := 32) dX11_lava_31 rfl ?_
        refine zr_iconst (pc' := 33) dX11_lava_32 rfl ?_
        refine zn_callS (pc' := 36) (args := [.inl l4, .inl 0, .inl 1]) (st := []) (st' := fun r7 => [.inl r7]) dX11_lava_33 rfl cs_X11_120 ⟨rfl, rfl, by decide, by decide⟩ rfl rfl rfl (Nat.le_of_ble_eq_true rfl) (fun _ => rfl) h ?_
        intro r7 M8 h
        refine zr_if_ne (tgt := 43) (pc' := 39) dX11_lava_36 rfl rfl h.1 (fun hc => ?_) (fun hc => ?_)
        · have h := h.2.1 hc
          refine zr_aload_n (pc' := 44) (i := 0) dX11_lava_43 rfl rfl rfl ?_
          refine zr_iload_n (pc' := 45) (i := 1) dX11_lava_44 rfl rfl rfl ?_
          refine zn_callV (pc' := 48) (args := [.inl l1]) (st := []) (st' := fun r9 => [.inr (.inr r9)]) dX11_lava_45 rfl cv_X11_218 ⟨rfl, rfl, by decide, by decide⟩ rfl ps_0 kd_0 rfl rfl (Nat.le_of_ble_eq_true rfl) (fun _ => rfl) h ?_
          intro r9 M10 h
          refine zr_astore (pc' := 50) (al' := [(5, .inr (.inr r9)), (0, .inr (.inr 0)), (1, .inl l1), (2, .inl l2), (3, .inl l3), (4, .inl l4)]) dX11_lava_48 rfl (by decide) rfl ?_
          refine zr_iload (pc' := 52) dX11_lava_50 rfl rfl ?_
          refine zr_if_ne (tgt := 65) (pc' := 55) dX11_lava_52 rfl rfl h.1 (fun hc => ?_) (fun hc => ?_)
          · have h := h.2.1 hc
            refine zr_aload (pc' := 67) dX11_lava_65 rfl rfl ?_
            refine zr_iload_n (pc' := 68) (i := 2) dX11_lava_67 rfl rfl rfl ?_
            refine zr_iload_n (pc' := 69) (i := 3) dX11_lava_68 rfl rfl rfl ?_
            have hi11 := h.1
            have h := h.2
            refine zn_callV (pc' := 72) (args := [.inl l2, .inl l3]) (st := []) (st' := fun r12 => [.inl r12]) dX11_lava_69 rfl cv_X11_225 ⟨rfl, rfl, by decide, by decide⟩ rfl (is_0_pos hi11) (is_0_kd hi11) rfl rfl (Nat.le_of_ble_eq_true rfl) (fun _ => rfl) h ?_
            intro r12 M13 h
            exact zr_ireturn dX11_lava_72 rfl rfl trivial (Nat.le_refl _) (Nat.le_refl _) (And.intro rfl h)
          · have h := h.2.2 hc
            refine zr_aload (pc' := 57) dX11_lava_55 rfl rfl ?_
            refine zr_iload_n (pc' := 58) (i := 2) dX11_lava_57 rfl rfl rfl ?_
            refine zr_iload_n (pc' := 59) (i := 3) dX11_lava_58 rfl rfl rfl ?_
            have hi14 := h.1
            have h := h.2
            refine zn_callV (pc' := 62) (args := [.inl l2, .inl l3]) (st := []) (st' := fun r15 => [.inl r15]) dX11_lava_59 rfl cv_X11_222 ⟨rfl, rfl, by decide, by decide⟩ rfl (is_0_pos hi14) (is_0_kd hi14) rfl rfl (Nat.le_of_ble_eq_true rfl) (fun _ => rfl) h ?_
            intro r15 M16 h
            refine zr_goto (pc' := 72) dX11_lava_62 rfl ?_
            exact zr_ireturn dX11_lava_72 rfl rfl trivial (Nat.le_refl _) (Nat.le_refl _) (And.intro rfl h)
        · have h := h.2.2 hc
          refine zr_sipush (pc' := 42) dX11_lava_39 rfl rfl ?_
          exact zr_ireturn dX11_lava_42 rfl rfl trivial (Nat.le_refl _) (Nat.le_refl _) (And.intro rfl h)
set_option maxRecDepth 20000 in
theorem vcX11_reached {E : zE} {M : zM} {Q : Int → zM → Prop} (l1 l2 : Int)
    (h : (zP E mX11_isWorld [.inr (.inr 0), .inl l1] M (fun r1 M2 => ((zR r1) ∧ ((r1 = 0 → Q (-1) M2) ∧ (¬ r1 = 0 → (zP E mX1_has [.inr (.inr 28), .inl l2] M2 (fun r3 M4 => ((zR r3) ∧ ((¬ r3 = 0 → (zP E mX11_steppedForecast [.inr (.inr 0), .inl l1] M4 (fun r5 M6 => zIs_0 r5 ∧ (0 ≤ l2 ∧ l2 < 64) ∧ Q (M6 (r5 + 3).toNat l2.toNat) M6))) ∧ (r3 = 0 → Q (-1) M4)))))))))))
    : zP E mX11_reached [.inr (.inr 0), .inl l1, .inl l2] M Q := by
  refine zP_of (by decide +kernel) rfl (Nat.le_of_ble_eq_true rfl) ?_
  show zA E zNN (0, 0) mX11_reached 0 [(0, .inr (.inr 0)), (1, .inl l1), (2, .inl l2)] [] M (zQ Q)
  refine zr_aload_n (pc' := 1) (i := 0) dX11_reached_0 rfl rfl rfl ?_
  refine zr_iload_n (pc' := 2) (i := 1) dX11_reached_1 rfl rfl rfl ?_
  refine zn_callV (pc' := 5) (args := [.inl l1]) (st := []) (st' := fun r1 => [.inl r1]) dX11_reached_2 rfl cv_X11_215 ⟨rfl, rfl, by decide, by decide⟩ rfl ps_0 kd_0 rfl rfl (Nat.le_of_ble_eq_true rfl) (fun _ => rfl) h ?_
  intro r1 M2 h
  refine zr_if_eq (tgt := 19) (pc' := 8) dX11_reached_5 rfl rfl h.1 (fun hc => ?_) (fun hc => ?_)
  · have h := h.2.1 hc
    refine zr_iconst (pc' := 20) dX11_reached_19 rfl ?_
    exact zr_ireturn dX11_reached_20 rfl rfl trivial (Nat.le_refl _) (Nat.le_refl _) (And.intro rfl h)
  · have h := h.2.2 hc
    refine zr_aload_n (pc' := 9) (i := 0) dX11_reached_8 rfl rfl rfl ?_
    refine zr_get (pc' := 12) dX11_reached_9 rfl ps_0 kd_0 fl_X11_40 kc_11 (gv_0_8 _) ?_
    refine zr_iload_n (pc' := 13) (i := 2) dX11_reached_12 rfl rfl rfl ?_
    refine zn_callV (pc' := 16) (args := [.inl l2]) (st := []) (st' := fun r3 => [.inl r3]) dX11_reached_13 rfl cv_X11_197 ⟨rfl, rfl, by decide, by decide⟩ rfl ps_28 kd_28 rfl rfl (Nat.le_of_ble_eq_true rfl) (fun _ => rfl) h ?_
    intro r3 M4 h
    refine zr_if_ne (tgt := 21) (pc' := 19) dX11_reached_16 rfl rfl h.1 (fun hc => ?_) (fun hc => ?_)
    · have h := h.2.1 hc
      refine zr_aload_n (pc' := 22) (i := 0) dX11_reached_21 rfl rfl rfl ?_
      refine zr_iload_n (pc' := 23) (i := 1) dX11_reached_22 rfl rfl rfl ?_
      refine zn_callV (pc' := 26) (args := [.inl l1]) (st := []) (st' := fun r5 => [.inr (.inr r5)]) dX11_reached_23 rfl cv_X11_218 ⟨rfl, rfl, by decide, by decide⟩ rfl ps_0 kd_0 rfl rfl (Nat.le_of_ble_eq_true rfl) (fun _ => rfl) h ?_
      intro r5 M6 h
      have hi7 := h.1
      have h := h.2
      refine zr_get (pc' := 29) dX11_reached_26 rfl (is_0_pos hi7) (is_0_kd hi7) fl_X11_228 kc_0 (is_0_gv_2 hi7 _) ?_
      refine zr_iload_n (pc' := 30) (i := 2) dX11_reached_29 rfl rfl rfl ?_
      refine zr_iald (pc' := 31) dX11_reached_30 rfl (is_0_kp_2 hi7) (is_0_ka_2 hi7) (by decide) h.1.1 h.1.2 ?_
      have h := h.2
      exact zr_ireturn dX11_reached_31 rfl rfl trivial (Nat.le_refl _) (Nat.le_refl _) (And.intro rfl h)
    · have h := h.2.2 hc
      refine zr_iconst (pc' := 20) dX11_reached_19 rfl ?_
      exact zr_ireturn dX11_reached_20 rfl rfl trivial (Nat.le_refl _) (Nat.le_refl _) (And.intro rfl h)
set_option maxRecDepth 20000 in
theorem vcX11_town {E : zE} {M : zM} {Q : Int → zM → Prop} (l1 l2 l3 l4 : Int)
    (h : (zP E mX1_has [.inr (.inr 28), .inl l1] M (fun r1 M2 => ((zR r1) ∧ ((r1 = 0 → Q (-1) M2) ∧ (¬ r1 = 0 → (zP E mX11_within [.inl l2, .inl 1, .inl 999] M2 (fun r3 M4 => ((zR r3) ∧ ((r3 = 0 → Q (-1) M4) ∧ (¬ r3 = 0 → (zP E mX11_within [.inl l3, .inl 1, .inl 4] M4 (fun r5 M6 => ((zR r5) ∧ ((r5 = 0 → Q (-1) M6) ∧ (¬ r5 = 0 → (zP E mX11_within [.inl l4, .inl 0, .inl 5] M6 (fun r7 M8 => ((zR r7) ∧ ((¬ r7 = 0 → (zP E mX11_escapeChanged [.inr (.inr 0)] M8 (fun r9 M10 => (zP E mX3_addTown [.inr (.inr 44), .inl l1, .inl l2, .inl l3, .inl l4] M10 (fun r11 M12 => Q r11 M12))))) ∧ (r7 = 0 → Q (-1) M8)))))))))))))))))))))
    : zP E mX11_town [.inr (.inr 0), .inl l1, .inl l2, .inl l3, .inl l4] M Q := by
  refine zP_of (by decide +kernel) rfl (Nat.le_of_ble_eq_true rfl) ?_
  show zA E zNN (0, 0) mX11_town 0 [(0, .inr (.inr 0)), (1, .inl l1), (2, .inl l2), (3, .inl l3), (4, .inl l4)] [] M (zQ Q)
  refine zr_aload_n (pc' := 1) (i := 0) dX11_town_0 rfl rfl rfl ?_
  refine zr_get (pc' := 4) dX11_town_1 rfl ps_0 kd_0 fl_X11_40 kc_11 (gv_0_8 _) ?_
  refine zr_iload_n (pc' := 5) (i := 1) dX11_town_4 rfl rfl rfl ?_
  refine zn_callV (pc' := 8) (args := [.inl l1]) (st := []) (st' := fun r1 => [.inl r1]) dX11_town_5 rfl cv_X11_197 ⟨rfl, rfl, by decide, by decide⟩ rfl ps_28 kd_28 rfl rfl (Nat.le_of_ble_eq_true rfl) (fun _ => rfl) h ?_
  intro r1 M2 h
  refine zr_if_eq (tgt := 41) (pc' := 11) dX11_town_8 rfl rfl h.1 (fun hc => ?_) (fun hc => ?_)
  · have h := h.2.1 hc
    refine zr_iconst (pc' := 42) dX11_town_41 rfl ?_
    exact zr_ireturn dX11_town_42 rfl rfl trivial (Nat.le_refl _) (Nat.le_refl _) (And.intro rfl h)
  · have h := h.2.2 hc
    refine zr_iload_n (pc' := 12) (i := 2) dX11_town_11 rfl rfl rfl ?_
    refine zr_iconst (pc' := 13) dX11_town_12 rfl ?_
    refine zr_sipush (pc' := 16) dX11_town_13 rfl rfl ?_
    refine zn_callS (pc' := 19) (args := [.inl l2, .inl 1, .inl 999]) (st := []) (st' := fun r3 => [.inl r3]) dX11_town_16 rfl cs_X11_120 ⟨rfl, rfl, by decide, by decide⟩ rfl rfl rfl (Nat.le_of_ble_eq_true rfl) (fun _ => rfl) h ?_
    intro r3 M4 h
    refine zr_if_eq (tgt := 41) (pc' := 22) dX11_town_19 rfl rfl h.1 (fun hc => ?_) (fun hc => ?_)
    · have h := h.2.1 hc
      refine zr_iconst (pc' := 42) dX11_town_41 rfl ?_
      exact zr_ireturn dX11_town_42 rfl rfl trivial (Nat.le_refl _) (Nat.le_refl _) (And.intro rfl h)
    · have h := h.2.2 hc
      refine zr_iload_n (pc' := 23) (i := 3) dX11_town_22 rfl rfl rfl ?_
      refine zr_iconst (pc' := 24) dX11_town_23 rfl ?_
      refine zr_iconst (pc' := 25) dX11_town_24 rfl ?_
      refine zn_callS (pc' := 28) (args := [.inl l3, .inl 1, .inl 4]) (st := []) (st' := fun r5 => [.inl r5]) dX11_town_25 rfl cs_X11_120 ⟨rfl, rfl, by decide, by decide⟩ rfl rfl rfl (Nat.le_of_ble_eq_true rfl) (fun _ => rfl) h ?_
      intro r5 M6 h
      refine zr_if_eq (tgt := 41) (pc' := 31) dX11_town_28 rfl rfl h.1 (fun hc => ?_) (fun hc => ?_)
      · have h := h.2.1 hc
        refine zr_iconst (pc' := 42) dX11_town_41 rfl ?_
        exact zr_ireturn dX11_town_42 rfl rfl trivial (Nat.le_refl _) (Nat.le_refl _) (And.intro rfl h)
      · have h := h.2.2 hc
        refine zr_iload (pc' := 33) dX11_town_31 rfl rfl ?_
        refine zr_iconst (pc' := 34) dX11_town_33 rfl ?_
        refine zr_iconst (pc' := 35) dX11_town_34 rfl ?_
        refine zn_callS (pc' := 38) (args := [.inl l4, .inl 0, .inl 5]) (st := []) (st' := fun r7 => [.inl r7]) dX11_town_35 rfl cs_X11_120 ⟨rfl, rfl, by decide, by decide⟩ rfl rfl rfl (Nat.le_of_ble_eq_true rfl) (fun _ => rfl) h ?_
        intro r7 M8 h
        refine zr_if_ne (tgt := 43) (pc' := 41) dX11_town_38 rfl rfl h.1 (fun hc => ?_) (fun hc => ?_)
        · have h := h.2.1 hc
          refine zr_aload_n (pc' := 44) (i := 0) dX11_town_43 rfl rfl rfl ?_
          refine zn_callV (pc' := 47) (args := []) (st := []) (st' := fun _ => []) dX11_town_44 rfl cv_X11_231 ⟨rfl, rfl, by decide, by decide⟩ rfl ps_0 kd_0 rfl rfl (Nat.le_of_ble_eq_true rfl) (fun _ => rfl) h ?_
          intro r9 M10 h
          refine zr_aload_n (pc' := 48) (i := 0) dX11_town_47 rfl rfl rfl ?_
          refine zr_get (pc' := 51) dX11_town_48 rfl ps_0 kd_0 fl_X11_64 kc_11 (gv_0_13 _) ?_
          refine zr_iload_n (pc' := 52) (i := 1) dX11_town_51 rfl rfl rfl ?_
          refine zr_iload_n (pc' := 53) (i := 2) dX11_town_52 rfl rfl rfl ?_
          refine zr_iload_n (pc' := 54) (i := 3) dX11_town_53 rfl rfl rfl ?_
          refine zr_iload (pc' := 56) dX11_town_54 rfl rfl ?_
          refine zn_callV (pc' := 59) (args := [.inl l1, .inl l2, .inl l3, .inl l4]) (st := []) (st' := fun r11 => [.inl r11]) dX11_town_56 rfl cv_X11_234 ⟨rfl, rfl, by decide, by decide⟩ rfl ps_44 kd_44 rfl rfl (Nat.le_of_ble_eq_true rfl) (fun _ => rfl) h ?_
          intro r11 M12 h
          exact zr_ireturn dX11_town_59 rfl rfl trivial (Nat.le_refl _) (Nat.le_refl _) (And.intro rfl h)
        · have h := h.2.2 hc
          refine zr_iconst (pc' := 42) dX11_town_41 rfl ?_
          exact zr_ireturn dX11_town_42 rfl rfl trivial (Nat.le_refl _) (Nat.le_refl _) (And.intro rfl h)
set_option maxRecDepth 20000 in
theorem vcX11_shelter {E : zE} {M : zM} {Q : Int → zM → Prop} (l1 : Int)
    (h : (zP E mX11_within [.inl l1, .inl 0, .inl 9999] M (fun r1 M2 => ((zR r1) ∧ ((¬ r1 = 0 → (zP E mX11_escapeChanged [.inr (.inr 0)] M2 (fun r3 M4 => (zP E mX3_addShelter [.inr (.inr 44), .inl l1] M4 (fun r5 M6 => Q r5 M6))))) ∧ (r1 = 0 → Q (-1) M2))))))
    : zP E mX11_shelter [.inr (.inr 0), .inl l1] M Q := by
  refine zP_of (by decide +kernel) rfl (Nat.le_of_ble_eq_true rfl) ?_
  show zA E zNN (0, 0) mX11_shelter 0 [(0, .inr (.inr 0)), (1, .inl l1)] [] M (zQ Q)
  refine zr_iload_n (pc' := 1) (i := 1) dX11_shelter_0 rfl rfl rfl ?_
  refine zr_iconst (pc' := 2) dX11_shelter_1 rfl ?_
  refine zr_sipush (pc' := 5) dX11_shelter_2 rfl rfl ?_
  refine zn_callS (pc' := 8) (args := [.inl l1, .inl 0, .inl 9999]) (st := []) (st' := fun r1 => [.inl r1]) dX11_shelter_5 rfl cs_X11_120 ⟨rfl, rfl, by decide, by decide⟩ rfl rfl rfl (Nat.le_of_ble_eq_true rfl) (fun _ => rfl) h ?_
  intro r1 M2 h
  refine zr_if_ne (tgt := 13) (pc' := 11) dX11_shelter_8 rfl rfl h.1 (fun hc => ?_) (fun hc => ?_)
  · have h := h.2.1 hc
    refine zr_aload_n (pc' := 14) (i := 0) dX11_shelter_13 rfl rfl rfl ?_
    refine zn_callV (pc' := 17) (args := []) (st := []) (st' := fun _ => []) dX11_shelter_14 rfl cv_X11_231 ⟨rfl, rfl, by decide, by decide⟩ rfl ps_0 kd_0 rfl rfl (Nat.le_of_ble_eq_true rfl) (fun _ => rfl) h ?_
    intro r3 M4 h
    refine zr_aload_n (pc' := 18) (i := 0) dX11_shelter_17 rfl rfl rfl ?_
    refine zr_get (pc' := 21) dX11_shelter_18 rfl ps_0 kd_0 fl_X11_64 kc_11 (gv_0_13 _) ?_
    refine zr_iload_n (pc' := 22) (i := 1) dX11_shelter_21 rfl rfl rfl ?_
    refine zn_callV (pc' := 25) (args := [.inl l1]) (st := []) (st' := fun r5 => [.inl r5]) dX11_shelter_22 rfl cv_X11_238 ⟨rfl, rfl, by decide, by decide⟩ rfl ps_44 kd_44 rfl rfl (Nat.le_of_ble_eq_true rfl) (fun _ => rfl) h ?_
    intro r5 M6 h
    exact zr_ireturn dX11_shelter_25 rfl rfl trivial (Nat.le_refl _) (Nat.le_refl _) (And.intro rfl h)
  · have h := h.2.2 hc
    refine zr_iconst (pc' := 12) dX11_shelter_11 rfl ?_
    exact zr_ireturn dX11_shelter_12 rfl rfl trivial (Nat.le_refl _) (Nat.le_refl _) (And.intro rfl h)
set_option maxRecDepth 20000 in
theorem vcX11_road {E : zE} {M : zM} {Q : Int → zM → Prop} (l1 l2 l3 l4 l5 l6 : Int)
    (h : (zP E mX3_has [.inr (.inr 44), .inl l1] M (fun r1 M2 => ((zR r1) ∧ ((r1 = 0 → Q (-1) M2) ∧ (¬ r1 = 0 → (zP E mX3_has [.inr (.inr 44), .inl l2] M2 (fun r3 M4 => ((zR r3) ∧ ((r3 = 0 → Q (-1) M4) ∧ (¬ r3 = 0 → ((zR l1 ∧ zR l2) ∧ ((l1 = l2 → Q (-1) M4) ∧ (¬ l1 = l2 → ((zR l6) ∧ ((l6 = (-1) → (zP E mX11_within [.inl l3, .inl 1, .inl 5] M4 (fun r5 M6 => ((zR r5) ∧ ((r5 = 0 → Q (-1) M6) ∧ (¬ r5 = 0 → (zP E mX11_within [.inl l4, .inl 1, .inl 999] M6 (fun r7 M8 => ((zR r7) ∧ ((r7 = 0 → Q (-1) M8) ∧ (¬ r7 = 0 → (zP E mX11_within [.inl l5, .inl 1, .inl 6] M8 (fun r9 M10 => ((zR r9) ∧ ((¬ r9 = 0 → (zP E mX11_escapeChanged [.inr (.inr 0)] M10 (fun r11 M12 => (zP E mX3_addRoad [.inr (.inr 44), .inl l1, .inl l2, .inl l3, .inl l4, .inl l5, .inl l6] M12 (fun r13 M14 => Q r13 M14))))) ∧ (r9 = 0 → Q (-1) M10)))))))))))))))) ∧ (¬ l6 = (-1) → (zP E mX1_has [.inr (.inr 28), .inl l6] M4 (fun r15 M16 => ((zR r15) ∧ ((¬ r15 = 0 → (zP E mX11_within [.inl l3, .inl 1, .inl 5] M16 (fun r17 M18 => ((zR r17) ∧ ((r17 = 0 → Q (-1) M18) ∧ (¬ r17 = 0 → (zP E mX11_within [.inl l4, .inl 1, .inl 999] M18 (fun r19 M20 => ((zR r19) ∧ ((r19 = 0 → Q (-1) M20) ∧ (¬ r19 = 0 → (zP E mX11_within [.inl l5, .inl 1, .inl 6] M20 (fun r21 M22 => ((zR r21) ∧ ((¬ r21 = 0 → (zP E mX11_escapeChanged [.inr (.inr 0)] M22 (fun r23 M24 => (zP E mX3_addRoad [.inr (.inr 44), .inl l1, .inl l2, .inl l3, .inl l4, .inl l5, .inl l6] M24 (fun r25 M26 => Q r25 M26))))) ∧ (r21 = 0 → Q (-1) M22)))))))))))))))) ∧ (r15 = 0 → Q (-1) M16))))))))))))))))))))))
    : zP E mX11_road [.inr (.inr 0), .inl l1, .inl l2, .inl l3, .inl l4, .inl l5, .inl l6] M Q := by
  refine zP_of (by decide +kernel) rfl (Nat.le_of_ble_eq_true rfl) ?_
  show zA E zNN (0, 0) mX11_road 0 [(0, .inr (.inr 0)), (1, .inl l1), (2, .inl l2), (3, .inl l3), (4, .inl l4), (5, .inl l5), (6, .inl l6)] [] M (zQ Q)
  refine zr_aload_n (pc' := 1) (i := 0) dX11_road_0 rfl rfl rfl ?_
  refine zr_get (pc' := 4) dX11_road_1 rfl ps_0 kd_0 fl_X11_64 kc_11 (gv_0_13 _) ?_
  refine zr_iload_n (pc' := 5) (i := 1) dX11_road_4 rfl rfl rfl ?_
  refine zn_callV (pc' := 8) (args := [.inl l1]) (st := []) (st' := fun r1 => [.inl r1]) dX11_road_5 rfl cv_X11_241 ⟨rfl, rfl, by decide, by decide⟩ rfl ps_44 kd_44 rfl rfl (Nat.le_of_ble_eq_true rfl) (fun _ => rfl) h ?_
  intro r1 M2 h
  refine zr_if_eq (tgt := 45) (pc' := 11) dX11_road_8 rfl rfl h.1 (fun hc => ?_) (fun hc => ?_)
  · have h := h.2.1 hc
    refine zr_iconst (pc' := 46) dX11_road_45 rfl ?_
    exact zr_ireturn dX11_road_46 rfl rfl trivial (Nat.le_refl _) (Nat.le_refl _) (And.intro rfl h)
  · have h := h.2.2 hc
    refine zr_aload_n (pc' := 12) (i := 0) dX11_road_11 rfl rfl rfl ?_
    refine zr_get (pc' := 15) dX11_road_12 rfl ps_0 kd_0 fl_X11_64 kc_11 (gv_0_13 _) ?_
    refine zr_iload_n (pc' := 16) (i := 2) dX11_road_15 rfl rfl rfl ?_
    refine zn_callV (pc' := 19) (args := [.inl l2]) (st := []) (st' := fun r3 => [.inl r3]) dX11_road_16 rfl cv_X11_241 ⟨rfl, rfl, by decide, by decide⟩ rfl ps_44 kd_44 rfl rfl (Nat.le_of_ble_eq_true rfl) (fun _ => rfl) h ?_
    intro r3 M4 h
    refine zr_if_eq (tgt := 45) (pc' := 22) dX11_road_19 rfl rfl h.1 (fun hc => ?_) (fun hc => ?_)
    · have h := h.2.1 hc
      refine zr_iconst (pc' := 46) dX11_road_45 rfl ?_
      exact zr_ireturn dX11_road_46 rfl rfl trivial (Nat.le_refl _) (Nat.le_refl _) (And.intro rfl h)
    · have h := h.2.2 hc
      refine zr_iload_n (pc' := 23) (i := 1) dX11_road_22 rfl rfl rfl ?_
      refine zr_iload_n (pc' := 24) (i := 2) dX11_road_23 rfl rfl rfl ?_
      refine zr_icmp_eq (tgt := 45) (pc' := 27) dX11_road_24 rfl rfl h.1.1 h.1.2 (fun hc => ?_) (fun hc => ?_)
      · have h := h.2.1 hc
        refine zr_iconst (pc' := 46) dX11_road_45 rfl ?_
        exact zr_ireturn dX11_road_46 rfl rfl trivial (Nat.le_refl _) (Nat.le_refl _) (And.intro rfl h)
      · have h := h.2.2 hc
        refine zr_iload (pc' := 29) dX11_road_27 rfl rfl ?_
        refine zr_iconst (pc' := 30) dX11_road_29 rfl ?_
        refine zr_icmp_eq (tgt := 47) (pc' := 33) dX11_road_30 rfl rfl h.1 (zRd rfl) (fun hc => ?_) (fun hc => ?_)
        · have h := h.2.1 hc
          refine zr_iload_n (pc' := 48) (i := 3) dX11_road_47 rfl rfl rfl ?_
          refine zr_iconst (pc' := 49) dX11_road_48 rfl ?_
          refine zr_iconst (pc' := 50) dX11_road_49 rfl ?_
          refine zn_callS (pc' := 53) (args := [.inl l3, .inl 1, .inl 5]) (st := []) (st' := fun r5 => [.inl r5]) dX11_road_50 rfl cs_X11_120 ⟨rfl, rfl, by decide, by decide⟩ rfl rfl rfl (Nat.le_of_ble_eq_true rfl) (fun _ => rfl) h ?_
          intro r5 M6 h
          refine zr_if_eq (tgt := 79) (pc' := 56) dX11_road_53 rfl rfl h.1 (fun hc => ?_) (fun hc => ?_)
          · have h := h.2.1 hc
            refine zr_iconst (pc' := 80) dX11_road_79 rfl ?_
            exact zr_ireturn dX11_road_80 rfl rfl trivial (Nat.le_refl _) (Nat.le_refl _) (And.intro rfl h)
          · have h := h.2.2 hc
            refine zr_iload (pc' := 58) dX11_road_56 rfl rfl ?_
            refine zr_iconst (pc' := 59) dX11_road_58 rfl ?_
            refine zr_sipush (pc' := 62) dX11_road_59 rfl rfl ?_
            refine zn_callS (pc' := 65) (args := [.inl l4, .inl 1, .inl 999]) (st := []) (st' := fun r7 => [.inl r7]) dX11_road_62 rfl cs_X11_120 ⟨rfl, rfl, by decide, by decide⟩ rfl rfl rfl (Nat.le_of_ble_eq_true rfl) (fun _ => rfl) h ?_
            intro r7 M8 h
            refine zr_if_eq (tgt := 79) (pc' := 68) dX11_road_65 rfl rfl h.1 (fun hc => ?_) (fun hc => ?_)
            · have h := h.2.1 hc
              refine zr_iconst (pc' := 80) dX11_road_79 rfl ?_
              exact zr_ireturn dX11_road_80 rfl rfl trivial (Nat.le_refl _) (Nat.le_refl _) (And.intro rfl h)
            · have h := h.2.2 hc
              refine zr_iload (pc' := 70) dX11_road_68 rfl rfl ?_
              refine zr_iconst (pc' := 71) dX11_road_70 rfl ?_
              refine zr_bipush (pc' := 73) dX11_road_71 rfl rfl ?_
              refine zn_callS (pc' := 76) (args := [.inl l5, .inl 1, .inl 6]) (st := []) (st' := fun r9 => [.inl r9]) dX11_road_73 rfl cs_X11_120 ⟨rfl, rfl, by decide, by decide⟩ rfl rfl rfl (Nat.le_of_ble_eq_true rfl) (fun _ => rfl) h ?_
              intro r9 M10 h
              refine zr_if_ne (tgt := 81) (pc' := 79) dX11_road_76 rfl rfl h.1 (fun hc => ?_) (fun hc => ?_)
              · have h := h.2.1 hc
                refine zr_aload_n (pc' := 82) (i := 0) dX11_road_81 rfl rfl rfl ?_
                refine zn_callV (pc' := 85) (args := []) (st := []) (st' := fun _ => []) dX11_road_82 rfl cv_X11_231 ⟨rfl, rfl, by decide, by decide⟩ rfl ps_0 kd_0 rfl rfl (Nat.le_of_ble_eq_true rfl) (fun _ => rfl) h ?_
                intro r11 M12 h
                refine zr_aload_n (pc' := 86) (i := 0) dX11_road_85 rfl rfl rfl ?_
                refine zr_get (pc' := 89) dX11_road_86 rfl ps_0 kd_0 fl_X11_64 kc_11 (gv_0_13 _) ?_
                refine zr_iload_n (pc' := 90) (i := 1) dX11_road_89 rfl rfl rfl ?_
                refine zr_iload_n (pc' := 91) (i := 2) dX11_road_90 rfl rfl rfl ?_
                refine zr_iload_n (pc' := 92) (i := 3) dX11_road_91 rfl rfl rfl ?_
                refine zr_iload (pc' := 94) dX11_road_92 rfl rfl ?_
                refine zr_iload (pc' := 96) dX11_road_94 rfl rfl ?_
                refine zr_iload (pc' := 98) dX11_road_96 rfl rfl ?_
                refine zn_callV (pc' := 101) (args := [.inl l1, .inl l2, .inl l3, .inl l4, .inl l5, .inl l6]) (st := []) (st' := fun r13 => [.inl r13]) dX11_road_98 rfl cv_X11_242 ⟨rfl, rfl, by decide, by decide⟩ rfl ps_44 kd_44 rfl rfl (Nat.le_of_ble_eq_true rfl) (fun _ => rfl) h ?_
                intro r13 M14 h
                exact zr_ireturn dX11_road_101 rfl rfl trivial (Nat.le_refl _) (Nat.le_refl _) (And.intro rfl h)
              · have h := h.2.2 hc
                refine zr_iconst (pc' := 80) dX11_road_79 rfl ?_
                exact zr_ireturn dX11_road_80 rfl rfl trivial (Nat.le_refl _) (Nat.le_refl _) (And.intro rfl h)
        · have h := h.2.2 hc
          refine zr_aload_n (pc' := 34) (i := 0) dX11_road_33 rfl rfl rfl ?_
          refine zr_get (pc' := 37) dX11_road_34 rfl ps_0 kd_0 fl_X11_40 kc_11 (gv_0_8 _) ?_
          refine zr_iload (pc' := 39) dX11_road_37 rfl rfl ?_
          refine zn_callV (pc' := 42) (args := [.inl l6]) (st := []) (st' := fun r15 => [.inl r15]) dX11_road_39 rfl cv_X11_197 ⟨rfl, rfl, by decide, by decide⟩ rfl ps_28 kd_28 rfl rfl (Nat.le_of_ble_eq_true rfl) (fun _ => rfl) h ?_
          intro r15 M16 h
          refine zr_if_ne (tgt := 47) (pc' := 45) dX11_road_42 rfl rfl h.1 (fun hc => ?_) (fun hc => ?_)
          · have h := h.2.1 hc
            refine zr_iload_n (pc' := 48) (i := 3) dX11_road_47 rfl rfl rfl ?_
            refine zr_iconst (pc' := 49) dX11_road_48 rfl ?_
            refine zr_iconst (pc' := 50) dX11_road_49 rfl ?_
            refine zn_callS (pc' := 53) (args := [.inl l3, .inl 1, .inl 5]) (st := []) (st' := fun r17 => [.inl r17]) dX11_road_50 rfl cs_X11_120 ⟨rfl, rfl, by decide, by decide⟩ rfl rfl rfl (Nat.le_of_ble_eq_true rfl) (fun _ => rfl) h ?_
            intro r17 M18 h
            refine zr_if_eq (tgt := 79) (pc' := 56) dX11_road_53 rfl rfl h.1 (fun hc => ?_) (fun hc => ?_)
            · have h := h.2.1 hc
              refine zr_iconst (pc' := 80) dX11_road_79 rfl ?_
              exact zr_ireturn dX11_road_80 rfl rfl trivial (Nat.le_refl _) (Nat.le_refl _) (And.intro rfl h)
            · have h := h.2.2 hc
              refine zr_iload (pc' := 58) dX11_road_56 rfl rfl ?_
              refine zr_iconst (pc' := 59) dX11_road_58 rfl ?_
              refine zr_sipush (pc' := 62) dX11_road_59 rfl rfl ?_
              refine zn_callS (pc' := 65) (args := [.inl l4, .inl 1, .inl 999]) (st := []) (st' := fun r19 => [.inl r19]) dX11_road_62 rfl cs_X11_120 ⟨rfl, rfl, by decide, by decide⟩ rfl rfl rfl (Nat.le_of_ble_eq_true rfl) (fun _ => rfl) h ?_
              intro r19 M20 h
              refine zr_if_eq (tgt := 79) (pc' := 68) dX11_road_65 rfl rfl h.1 (fun hc => ?_) (fun hc => ?_)
              · have h := h.2.1 hc
                refine zr_iconst (pc' := 80) dX11_road_79 rfl ?_
                exact zr_ireturn dX11_road_80 rfl rfl trivial (Nat.le_refl _) (Nat.le_refl _) (And.intro rfl h)
              · have h := h.2.2 hc
                refine zr_iload (pc' := 70) dX11_road_68 rfl rfl ?_
                refine zr_iconst (pc' := 71) dX11_road_70 rfl ?_
                refine zr_bipush (pc' := 73) dX11_road_71 rfl rfl ?_
                refine zn_callS (pc' := 76) (args := [.inl l5, .inl 1, .inl 6]) (st := []) (st' := fun r21 => [.inl r21]) dX11_road_73 rfl cs_X11_120 ⟨rfl, rfl, by decide, by decide⟩ rfl rfl rfl (Nat.le_of_ble_eq_true rfl) (fun _ => rfl) h ?_
                intro r21 M22 h
                refine zr_if_ne (tgt := 81) (pc' := 79) dX11_road_76 rfl rfl h.1 (fun hc => ?_) (fun hc => ?_)
                · have h := h.2.1 hc
                  refine zr_aload_n (pc' := 82) (i := 0) dX11_road_81 rfl rfl rfl ?_
                  refine zn_callV (pc' := 85) (args := []) (st := []) (st' := fun _ => []) dX11_road_82 rfl cv_X11_231 ⟨rfl, rfl, by decide, by decide⟩ rfl ps_0 kd_0 rfl rfl (Nat.le_of_ble_eq_true rfl) (fun _ => rfl) h ?_
                  intro r23 M24 h
                  refine zr_aload_n (pc' := 86) (i := 0) dX11_road_85 rfl rfl rfl ?_
                  refine zr_get (pc' := 89) dX11_road_86 rfl ps_0 kd_0 fl_X11_64 kc_11 (gv_0_13 _) ?_
                  refine zr_iload_n (pc' := 90) (i := 1) dX11_road_89 rfl rfl rfl ?_
                  refine zr_iload_n (pc' := 91) (i := 2) dX11_road_90 rfl rfl rfl ?_
                  refine zr_iload_n (pc' := 92) (i := 3) dX11_road_91 rfl rfl rfl ?_
                  refine zr_iload (pc' := 94) dX11_road_92 rfl rfl ?_
                  refine zr_iload (pc' := 96) dX11_road_94 rfl rfl ?_
                  refine zr_iload (pc' := 98) dX11_road_96 rfl rfl ?_
                  refine zn_callV (pc' := 101) (args := [.inl l1, .inl l2, .inl l3, .inl l4, .inl l5, .inl l6]) (st := []) (st' := fun r25 => [.inl r25]) dX11_road_98 rfl cv_X11_242 ⟨rfl, rfl, by decide, by decide⟩ rfl ps_44 kd_44 rfl rfl (Nat.le_of_ble_eq_true rfl) (fun _ => rfl) h ?_
                  intro r25 M26 h
                  exact zr_ireturn dX11_road_101 rfl rfl trivial (Nat.le_refl _) (Nat.le_refl _) (And.intro rfl h)
                · have h := h.2.2 hc
                  refine zr_iconst (pc' := 80) dX11_road_79 rfl ?_
                  exact zr_ireturn dX11_road_80 rfl rfl trivial (Nat.le_refl _) (Nat.le_refl _) (And.intro rfl h)
          · have h := h.2.2 hc
            refine zr_iconst (pc' := 46) dX11_road_45 rfl ?_
            exact zr_ireturn dX11_road_46 rfl rfl trivial (Nat.le_refl _) (Nat.le_refl _) (And.intro rfl h)
set_option maxRecDepth 20000 in
theorem vcX11_warned {E : zE} {M : zM} {Q : Int → zM → Prop} (l1 : Int)
    (h : (zP E mX3_isTown [.inr (.inr 44), .inl l1] M (fun r1 M2 => ((zR r1) ∧ ((¬ r1 = 0 → (zP E mX11_noteWarnings [.inr (.inr 0)] M2 (fun r3 M4 => (0 ≤ l1 ∧ l1 < 8) ∧ Q (M4 50 l1.toNat) M4))) ∧ (r1 = 0 → Q (-1) M2))))))
    : zP E mX11_warned [.inr (.inr 0), .inl l1] M Q := by
  refine zP_of (by decide +kernel) rfl (Nat.le_of_ble_eq_true rfl) ?_
  show zA E zNN (0, 0) mX11_warned 0 [(0, .inr (.inr 0)), (1, .inl l1)] [] M (zQ Q)
  refine zr_aload_n (pc' := 1) (i := 0) dX11_warned_0 rfl rfl rfl ?_
  refine zr_get (pc' := 4) dX11_warned_1 rfl ps_0 kd_0 fl_X11_64 kc_11 (gv_0_13 _) ?_
  refine zr_iload_n (pc' := 5) (i := 1) dX11_warned_4 rfl rfl rfl ?_
  refine zn_callV (pc' := 8) (args := [.inl l1]) (st := []) (st' := fun r1 => [.inl r1]) dX11_warned_5 rfl cv_X11_246 ⟨rfl, rfl, by decide, by decide⟩ rfl ps_44 kd_44 rfl rfl (Nat.le_of_ble_eq_true rfl) (fun _ => rfl) h ?_
  intro r1 M2 h
  refine zr_if_ne (tgt := 13) (pc' := 11) dX11_warned_8 rfl rfl h.1 (fun hc => ?_) (fun hc => ?_)
  · have h := h.2.1 hc
    refine zr_aload_n (pc' := 14) (i := 0) dX11_warned_13 rfl rfl rfl ?_
    refine zn_callV (pc' := 17) (args := []) (st := []) (st' := fun _ => []) dX11_warned_14 rfl cv_X11_249 ⟨rfl, rfl, by decide, by decide⟩ rfl ps_0 kd_0 rfl rfl (Nat.le_of_ble_eq_true rfl) (fun _ => rfl) h ?_
    intro r3 M4 h
    refine zr_aload_n (pc' := 18) (i := 0) dX11_warned_17 rfl rfl rfl ?_
    refine zr_get (pc' := 21) dX11_warned_18 rfl ps_0 kd_0 fl_X11_64 kc_11 (gv_0_13 _) ?_
    refine zr_get (pc' := 24) dX11_warned_21 rfl ps_44 kd_44 fl_X11_252 kc_3 (gv_44_5 _) ?_
    refine zr_iload_n (pc' := 25) (i := 1) dX11_warned_24 rfl rfl rfl ?_
    refine zr_iald (pc' := 26) dX11_warned_25 rfl ps_50 kd_50 (by decide) h.1.1 h.1.2 ?_
    have h := h.2
    exact zr_ireturn dX11_warned_26 rfl rfl trivial (Nat.le_refl _) (Nat.le_refl _) (And.intro rfl h)
  · have h := h.2.2 hc
    refine zr_iconst (pc' := 12) dX11_warned_11 rfl ?_
    exact zr_ireturn dX11_warned_12 rfl rfl trivial (Nat.le_refl _) (Nat.le_refl _) (And.intro rfl h)
set_option maxRecDepth 20000 in
theorem vcX11_ledOut {E : zE} {M : zM} {Q : Int → zM → Prop} (l1 l2 : Int)
    (h : (zP E mX11_isWorld [.inr (.inr 0), .inl l1] M (fun r1 M2 => ((zR r1) ∧ ((r1 = 0 → Q (-1) M2) ∧ (¬ r1 = 0 → (zP E mX11_within [.inl l2, .inl 0, .inl 2] M2 (fun r3 M4 => ((zR r3) ∧ ((¬ r3 = 0 → ((zR l2) ∧ ((¬ l2 = 2 → (zP E mX11_noteWarnings [.inr (.inr 0)] M4 (fun r5 M6 => (zP E mX11_ledForecast [.inr (.inr 0), .inl l1] M6 (fun r7 M8 => zIs_0 r7 ∧ ((zR l2) ∧ ((¬ l2 = 0 → (zP E mX3_allPeople [.inr (.inr 44)] M8 (fun r10 M11 => Q (r10 - (M8 r7.toNat 8)) M11))) ∧ (l2 = 0 → Q (M8 r7.toNat 8) M8)))))))) ∧ (l2 = 2 → (zP E mX11_steppedForecast [.inr (.inr 0), .inl l1] M4 (fun r12 M13 => zIs_0 r12 ∧ Q (M13 r12.toNat 3) M13)))))) ∧ (r3 = 0 → Q (-1) M4)))))))))))
    : zP E mX11_ledOut [.inr (.inr 0), .inl l1, .inl l2] M Q := by
  refine zP_of (by decide +kernel) rfl (Nat.le_of_ble_eq_true rfl) ?_
  show zA E zNN (0, 0) mX11_ledOut 0 [(0, .inr (.inr 0)), (1, .inl l1), (2, .inl l2)] [] M (zQ Q)
  refine zr_aload_n (pc' := 1) (i := 0) dX11_ledOut_0 rfl rfl rfl ?_
  refine zr_iload_n (pc' := 2) (i := 1) dX11_ledOut_1 rfl rfl rfl ?_
  refine zn_callV (pc' := 5) (args := [.inl l1]) (st := []) (st' := fun r1 => [.inl r1]) dX11_ledOut_2 rfl cv_X11_215 ⟨rfl, rfl, by decide, by decide⟩ rfl ps_0 kd_0 rfl rfl (Nat.le_of_ble_eq_true rfl) (fun _ => rfl) h ?_
  intro r1 M2 h
  refine zr_if_eq (tgt := 17) (pc' := 8) dX11_ledOut_5 rfl rfl h.1 (fun hc => ?_) (fun hc => ?_)
  · have h := h.2.1 hc
    refine zr_iconst (pc' := 18) dX11_ledOut_17 rfl ?_
    exact zr_ireturn dX11_ledOut_18 rfl rfl trivial (Nat.le_refl _) (Nat.le_refl _) (And.intro rfl h)
  · have h := h.2.2 hc
    refine zr_iload_n (pc' := 9) (i := 2) dX11_ledOut_8 rfl rfl rfl ?_
    refine zr_iconst (pc' := 10) dX11_ledOut_9 rfl ?_
    refine zr_iconst (pc' := 11) dX11_ledOut_10 rfl ?_
    refine zn_callS (pc' := 14) (args := [.inl l2, .inl 0, .inl 2]) (st := []) (st' := fun r3 => [.inl r3]) dX11_ledOut_11 rfl cs_X11_120 ⟨rfl, rfl, by decide, by decide⟩ rfl rfl rfl (Nat.le_of_ble_eq_true rfl) (fun _ => rfl) h ?_
    intro r3 M4 h
    refine zr_if_ne (tgt := 19) (pc' := 17) dX11_ledOut_14 rfl rfl h.1 (fun hc => ?_) (fun hc => ?_)
    · have h := h.2.1 hc
      refine zr_iload_n (pc' := 20) (i := 2) dX11_ledOut_19 rfl rfl rfl ?_
      refine zr_iconst (pc' := 21) dX11_ledOut_20 rfl ?_
      refine zr_icmp_ne (tgt := 33) (pc' := 24) dX11_ledOut_21 rfl rfl h.1 (zRd rfl) (fun hc => ?_) (fun hc => ?_)
      · have h := h.2.1 hc
        refine zr_aload_n (pc' := 34) (i := 0) dX11_ledOut_33 rfl rfl rfl ?_
        refine zn_callV (pc' := 37) (args := []) (st := []) (st' := fun _ => []) dX11_ledOut_34 rfl cv_X11_249 ⟨rfl, rfl, by decide, by decide⟩ rfl ps_0 kd_0 rfl rfl (Nat.le_of_ble_eq_true rfl) (fun _ => rfl) h ?_
        intro r5 M6 h
        refine zr_aload_n (pc' := 38) (i := 0) dX11_ledOut_37 rfl rfl rfl ?_
        refine zr_iload_n (pc' := 39) (i := 1) dX11_ledOut_38 rfl rfl rfl ?_
        refine zn_callV (pc' := 42) (args := [.inl l1]) (st := []) (st' := fun r7 => [.inr (.inr r7)]) dX11_ledOut_39 rfl cv_X11_258 ⟨rfl, rfl, by decide, by decide⟩ rfl ps_0 kd_0 rfl rfl (Nat.le_of_ble_eq_true rfl) (fun _ => rfl) h ?_
        intro r7 M8 h
        have hi9 := h.1
        have h := h.2
        refine zr_get (pc' := 45) dX11_ledOut_42 rfl (is_0_pos hi9) (is_0_kd hi9) fl_X11_261 kc_0 (is_0_gv_8 hi9 _) ?_
        refine zr_istore_n (pc' := 46) (i := 3) (al' := [(3, .inl (M8 r7.toNat 8)), (0, .inr (.inr 0)), (1, .inl l1), (2, .inl l2)]) dX11_ledOut_45 rfl rfl (by decide) rfl ?_
        refine zr_iload_n (pc' := 47) (i := 2) dX11_ledOut_46 rfl rfl rfl ?_
        refine zr_if_ne (tgt := 54) (pc' := 50) dX11_ledOut_47 rfl rfl h.1 (fun hc => ?_) (fun hc => ?_)
        · have h := h.2.1 hc
          refine zr_aload_n (pc' := 55) (i := 0) dX11_ledOut_54 rfl rfl rfl ?_
          refine zr_get (pc' := 58) dX11_ledOut_55 rfl ps_0 kd_0 fl_X11_64 kc_11 (gv_0_13 _) ?_
          refine zn_callV (pc' := 61) (args := []) (st := []) (st' := fun r10 => [.inl r10]) dX11_ledOut_58 rfl cv_X11_264 ⟨rfl, rfl, by decide, by decide⟩ rfl ps_44 kd_44 rfl rfl (Nat.le_of_ble_eq_true rfl) (fun _ => rfl) h ?_
          intro r10 M11 h
          refine zr_iload_n (pc' := 62) (i := 3) dX11_ledOut_61 rfl rfl rfl ?_
          refine zr_isub (pc' := 63) dX11_ledOut_62 rfl ?_
          exact zr_ireturn dX11_ledOut_63 rfl rfl trivial (Nat.le_refl _) (Nat.le_refl _) (And.intro rfl h)
        · have h := h.2.2 hc
          refine zr_iload_n (pc' := 51) (i := 3) dX11_ledOut_50 rfl rfl rfl ?_
          refine zr_goto (pc' := 63) dX11_ledOut_51 rfl ?_
          exact zr_ireturn dX11_ledOut_63 rfl rfl trivial (Nat.le_refl _) (Nat.le_refl _) (And.intro rfl h)
      · have h := h.2.2 hc
        refine zr_aload_n (pc' := 25) (i := 0) dX11_ledOut_24 rfl rfl rfl ?_
        refine zr_iload_n (pc' := 26) (i := 1) dX11_ledOut_25 rfl rfl rfl ?_
        refine zn_callV (pc' := 29) (args := [.inl l1]) (st := []) (st' := fun r12 => [.inr (.inr r12)]) dX11_ledOut_26 rfl cv_X11_218 ⟨rfl, rfl, by decide, by decide⟩ rfl ps_0 kd_0 rfl rfl (Nat.le_of_ble_eq_true rfl) (fun _ => rfl) h ?_
        intro r12 M13 h
        have hi14 := h.1
        have h := h.2
        refine zr_get (pc' := 32) dX11_ledOut_29 rfl (is_0_pos hi14) (is_0_kd hi14) fl_X11_255 kc_0 (is_0_gv_3 hi14 _) ?_
        exact zr_ireturn dX11_ledOut_32 rfl rfl trivial (Nat.le_refl _) (Nat.le_refl _) (And.intro rfl h)
    · have h := h.2.2 hc
      refine zr_iconst (pc' := 18) dX11_ledOut_17 rfl ?_
      exact zr_ireturn dX11_ledOut_18 rfl rfl trivial (Nat.le_refl _) (Nat.le_refl _) (And.intro rfl h)
set_option maxRecDepth 20000 in
theorem vcX11_cut {E : zE} {M : zM} {Q : Int → zM → Prop} (l1 l2 l3 : Int)
    (h : (zP E mX11_isWorld [.inr (.inr 0), .inl l1] M (fun r1 M2 => ((zR r1) ∧ ((r1 = 0 → Q (-1) M2) ∧ (¬ r1 = 0 → (zP E mX3_has [.inr (.inr 44), .inl l2] M2 (fun r3 M4 => ((zR r3) ∧ ((¬ r3 = 0 → (0 ≤ l1 ∧ l1 < 3) ∧ zIs_10 (M4 33 l1.toNat) ∧ (zP E mX10_firstHour [.inr (.inr (M4 33 l1.toNat))] M4 (fun r6 M7 => (zP E mX10_lastHour [.inr (.inr (M4 33 l1.toNat))] M7 (fun r8 M9 => (zP E mX11_within [.inl l3, .inl r6, .inl r8] M9 (fun r10 M11 => ((zR r10) ∧ ((¬ r10 = 0 → (zP E mX11_noteWarnings [.inr (.inr 0)] M11 (fun r12 M13 => (zP E mX11_ledForecast [.inr (.inr 0), .inl l1] M13 (fun r14 M15 => zIs_0 r14 ∧ (zP E mX10_firstHour [.inr (.inr (M4 33 l1.toNat))] M15 (fun r17 M18 => (zP E mX2_node [.inl l2, .inl (l3 - r17)] M18 (fun r19 M20 => (0 ≤ r19 ∧ r19 < 202) ∧ Q (M20 (r14 + 7).toNat r19.toNat) M20))))))))) ∧ (r10 = 0 → Q (-1) M11)))))))))) ∧ (r3 = 0 → Q (-1) M4)))))))))))
    : zP E mX11_cut [.inr (.inr 0), .inl l1, .inl l2, .inl l3] M Q := by
  refine zP_of (by decide +kernel) rfl (Nat.le_of_ble_eq_true rfl) ?_
  show zA E zNN (0, 0) mX11_cut 0 [(0, .inr (.inr 0)), (1, .inl l1), (2, .inl l2), (3, .inl l3)] [] M (zQ Q)
  refine zr_aload_n (pc' := 1) (i := 0) dX11_cut_0 rfl rfl rfl ?_
  refine zr_iload_n (pc' := 2) (i := 1) dX11_cut_1 rfl rfl rfl ?_
  refine zn_callV (pc' := 5) (args := [.inl l1]) (st := []) (st' := fun r1 => [.inl r1]) dX11_cut_2 rfl cv_X11_215 ⟨rfl, rfl, by decide, by decide⟩ rfl ps_0 kd_0 rfl rfl (Nat.le_of_ble_eq_true rfl) (fun _ => rfl) h ?_
  intro r1 M2 h
  refine zr_if_eq (tgt := 19) (pc' := 8) dX11_cut_5 rfl rfl h.1 (fun hc => ?_) (fun hc => ?_)
  · have h := h.2.1 hc
    refine zr_iconst (pc' := 20) dX11_cut_19 rfl ?_
    exact zr_ireturn dX11_cut_20 rfl rfl trivial (Nat.le_refl _) (Nat.le_refl _) (And.intro rfl h)
  · have h := h.2.2 hc
    refine zr_aload_n (pc' := 9) (i := 0) dX11_cut_8 rfl rfl rfl ?_
    refine zr_get (pc' := 12) dX11_cut_9 rfl ps_0 kd_0 fl_X11_64 kc_11 (gv_0_13 _) ?_
    refine zr_iload_n (pc' := 13) (i := 2) dX11_cut_12 rfl rfl rfl ?_
    refine zn_callV (pc' := 16) (args := [.inl l2]) (st := []) (st' := fun r3 => [.inl r3]) dX11_cut_13 rfl cv_X11_241 ⟨rfl, rfl, by decide, by decide⟩ rfl ps_44 kd_44 rfl rfl (Nat.le_of_ble_eq_true rfl) (fun _ => rfl) h ?_
    intro r3 M4 h
    refine zr_if_ne (tgt := 21) (pc' := 19) dX11_cut_16 rfl rfl h.1 (fun hc => ?_) (fun hc => ?_)
    · have h := h.2.1 hc
      refine zr_aload_n (pc' := 22) (i := 0) dX11_cut_21 rfl rfl rfl ?_
      refine zr_get (pc' := 25) dX11_cut_22 rfl ps_0 kd_0 fl_X11_46 kc_11 (gv_0_9 _) ?_
      refine zr_iload_n (pc' := 26) (i := 1) dX11_cut_25 rfl rfl rfl ?_
      refine zr_aald (pc' := 27) (t0 := 5) dX11_cut_26 rfl ps_33 kd_33 (by decide) (fun _ => rfl) (by decide) h.1.1 h.1.2 ?_
      have h := h.2
      refine zr_astore (pc' := 29) (al' := [(4, .inr (.inr (M4 33 l1.toNat))), (0, .inr (.inr 0)), (1, .inl l1), (2, .inl l2), (3, .inl l3)]) dX11_cut_27 rfl (by decide) rfl ?_
      refine zr_iload_n (pc' := 30) (i := 3) dX11_cut_29 rfl rfl rfl ?_
      refine zr_aload (pc' := 32) dX11_cut_30 rfl rfl ?_
      have hi5 := h.1
      have h := h.2
      refine zn_callV (pc' := 35) (args := []) (st := [.inl l3]) (st' := fun r6 => [.inl r6, .inl l3]) dX11_cut_32 rfl cv_X11_268 ⟨rfl, rfl, by decide, by decide⟩ rfl (is_10_pos hi5) (is_10_kd hi5) rfl rfl (Nat.le_of_ble_eq_true rfl) (fun _ => rfl) h ?_
      intro r6 M7 h
      refine zr_aload (pc' := 37) dX11_cut_35 rfl rfl ?_
      refine zn_callV (pc' := 40) (args := []) (st := [.inl r6, .inl l3]) (st' := fun r8 => [.inl r8, .inl r6, .inl l3]) dX11_cut_37 rfl cv_X11_271 ⟨rfl, rfl, by decide, by decide⟩ rfl (is_10_pos hi5) (is_10_kd hi5) rfl rfl (Nat.le_of_ble_eq_true rfl) (fun _ => rfl) h ?_
      intro r8 M9 h
      refine zn_callS (pc' := 43) (args := [.inl l3, .inl r6, .inl r8]) (st := []) (st' := fun r10 => [.inl r10]) dX11_cut_40 rfl cs_X11_120 ⟨rfl, rfl, by decide, by decide⟩ rfl rfl rfl (Nat.le_of_ble_eq_true rfl) (fun _ => rfl) h ?_
      intro r10 M11 h
      refine zr_if_ne (tgt := 48) (pc' := 46) dX11_cut_43 rfl rfl h.1 (fun hc => ?_) (fun hc => ?_)
      · have h := h.2.1 hc
        refine zr_aload_n (pc' := 49) (i := 0) dX11_cut_48 rfl rfl rfl ?_
        refine zn_callV (pc' := 52) (args := []) (st := []) (st' := fun _ => []) dX11_cut_49 rfl cv_X11_249 ⟨rfl, rfl, by decide, by decide⟩ rfl ps_0 kd_0 rfl rfl (Nat.le_of_ble_eq_true rfl) (fun _ => rfl) h ?_
        intro r12 M13 h
        refine zr_aload_n (pc' := 53) (i := 0) dX11_cut_52 rfl rfl rfl ?_
        refine zr_iload_n (pc' := 54) (i := 1) dX11_cut_53 rfl rfl rfl ?_
        refine zn_callV (pc' := 57) (args := [.inl l1]) (st := []) (st' := fun r14 => [.inr (.inr r14)]) dX11_cut_54 rfl cv_X11_258 ⟨rfl, rfl, by decide, by decide⟩ rfl ps_0 kd_0 rfl rfl (Nat.le_of_ble_eq_true rfl) (fun _ => rfl) h ?_
        intro r14 M15 h
        have hi16 := h.1
        have h := h.2
        refine zr_get (pc' := 60) dX11_cut_57 rfl (is_0_pos hi16) (is_0_kd hi16) fl_X11_274 kc_0 (is_0_gv_9 hi16 _) ?_
        refine zr_iload_n (pc' := 61) (i := 2) dX11_cut_60 rfl rfl rfl ?_
        refine zr_iload_n (pc' := 62) (i := 3) dX11_cut_61 rfl rfl rfl ?_
        refine zr_aload (pc' := 64) dX11_cut_62 rfl rfl ?_
        refine zn_callV (pc' := 67) (args := []) (st := [.inl l3, .inl l2, .inr (.inr (r14 + 7))]) (st' := fun r17 => [.inl r17, .inl l3, .inl l2, .inr (.inr (r14 + 7))]) dX11_cut_64 rfl cv_X11_268 ⟨rfl, rfl, by decide, by decide⟩ rfl (is_10_pos hi5) (is_10_kd hi5) rfl rfl (Nat.le_of_ble_eq_true rfl) (fun _ => rfl) h ?_
        intro r17 M18 h
        refine zr_isub (pc' := 68) dX11_cut_67 rfl ?_
        refine zn_callS (pc' := 71) (args := [.inl l2, .inl (l3 - r17)]) (st := [.inr (.inr (r14 + 7))]) (st' := fun r19 => [.inl r19, .inr (.inr (r14 + 7))]) dX11_cut_68 rfl cs_X11_277 ⟨rfl, rfl, by decide, by decide⟩ rfl rfl rfl (Nat.le_of_ble_eq_true rfl) (fun _ => rfl) h ?_
        intro r19 M20 h
        refine zr_iald (pc' := 72) dX11_cut_71 rfl (is_0_kp_9 hi16) (is_0_ka_9 hi16) (by decide) h.1.1 h.1.2 ?_
        have h := h.2
        exact zr_ireturn dX11_cut_72 rfl rfl trivial (Nat.le_refl _) (Nat.le_refl _) (And.intro rfl h)
      · have h := h.2.2 hc
        refine zr_iconst (pc' := 47) dX11_cut_46 rfl ?_
        exact zr_ireturn dX11_cut_47 rfl rfl trivial (Nat.le_refl _) (Nat.le_refl _) (And.intro rfl h)
    · have h := h.2.2 hc
      refine zr_iconst (pc' := 20) dX11_cut_19 rfl ?_
      exact zr_ireturn dX11_cut_20 rfl rfl trivial (Nat.le_refl _) (Nat.le_refl _) (And.intro rfl h)
set_option maxRecDepth 20000 in
theorem vcX11_cost {E : zE} {M : zM} {Q : Int → zM → Prop} (l1 : Int)
    (h : (zP E mX11_within [.inl l1, .inl 0, .inl 1] M (fun r1 M2 => ((zR r1) ∧ ((¬ r1 = 0 → (zP E mX11_noteWarnings [.inr (.inr 0)] M2 (fun r3 M4 => ((zR l1) ∧ ((¬ l1 = 0 → (zP E mX11_buriedCost [.inr (.inr 0)] M4 (fun r5 M6 => Q r5 M6))) ∧ (l1 = 0 → (zP E mX11_lostCost [.inr (.inr 0)] M4 (fun r7 M8 => Q r7 M8)))))))) ∧ (r1 = 0 → Q (-1) M2))))))
    : zP E mX11_cost [.inr (.inr 0), .inl l1] M Q := by
  refine zP_of (by decide +kernel) rfl (Nat.le_of_ble_eq_true rfl) ?_
  show zA E zNN (0, 0) mX11_cost 0 [(0, .inr (.inr 0)), (1, .inl l1)] [] M (zQ Q)
  refine zr_iload_n (pc' := 1) (i := 1) dX11_cost_0 rfl rfl rfl ?_
  refine zr_iconst (pc' := 2) dX11_cost_1 rfl ?_
  refine zr_iconst (pc' := 3) dX11_cost_2 rfl ?_
  refine zn_callS (pc' := 6) (args := [.inl l1, .inl 0, .inl 1]) (st := []) (st' := fun r1 => [.inl r1]) dX11_cost_3 rfl cs_X11_120 ⟨rfl, rfl, by decide, by decide⟩ rfl rfl rfl (Nat.le_of_ble_eq_true rfl) (fun _ => rfl) h ?_
  intro r1 M2 h
  refine zr_if_ne (tgt := 11) (pc' := 9) dX11_cost_6 rfl rfl h.1 (fun hc => ?_) (fun hc => ?_)
  · have h := h.2.1 hc
    refine zr_aload_n (pc' := 12) (i := 0) dX11_cost_11 rfl rfl rfl ?_
    refine zn_callV (pc' := 15) (args := []) (st := []) (st' := fun _ => []) dX11_cost_12 rfl cv_X11_249 ⟨rfl, rfl, by decide, by decide⟩ rfl ps_0 kd_0 rfl rfl (Nat.le_of_ble_eq_true rfl) (fun _ => rfl) h ?_
    intro r3 M4 h
    refine zr_iload_n (pc' := 16) (i := 1) dX11_cost_15 rfl rfl rfl ?_
    refine zr_if_ne (tgt := 26) (pc' := 19) dX11_cost_16 rfl rfl h.1 (fun hc => ?_) (fun hc => ?_)
    · have h := h.2.1 hc
      refine zr_aload_n (pc' := 27) (i := 0) dX11_cost_26 rfl rfl rfl ?_
      refine zn_callV (pc' := 30) (args := []) (st := []) (st' := fun r5 => [.inl r5]) dX11_cost_27 rfl cv_X11_283 ⟨rfl, rfl, by decide, by decide⟩ rfl ps_0 kd_0 rfl rfl (Nat.le_of_ble_eq_true rfl) (fun _ => rfl) h ?_
      intro r5 M6 h
      exact zr_ireturn dX11_cost_30 rfl rfl trivial (Nat.le_refl _) (Nat.le_refl _) (And.intro rfl h)
    · have h := h.2.2 hc
      refine zr_aload_n (pc' := 20) (i := 0) dX11_cost_19 rfl rfl rfl ?_
      refine zn_callV (pc' := 23) (args := []) (st := []) (st' := fun r7 => [.inl r7]) dX11_cost_20 rfl cv_X11_280 ⟨rfl, rfl, by decide, by decide⟩ rfl ps_0 kd_0 rfl rfl (Nat.le_of_ble_eq_true rfl) (fun _ => rfl) h ?_
      intro r7 M8 h
      refine zr_goto (pc' := 30) dX11_cost_23 rfl ?_
      exact zr_ireturn dX11_cost_30 rfl rfl trivial (Nat.le_refl _) (Nat.le_refl _) (And.intro rfl h)
  · have h := h.2.2 hc
    refine zr_iconst (pc' := 10) dX11_cost_9 rfl ?_
    exact zr_ireturn dX11_cost_10 rfl rfl trivial (Nat.le_refl _) (Nat.le_refl _) (And.intro rfl h)
set_option maxRecDepth 20000 in
theorem vcX11_candidate {E : zE} {M : zM} {Q : Int → zM → Prop} (l1 : Int)
    (h : (zP E mX1_addCandidate [.inr (.inr 28), .inl l1] M (fun r1 M2 => ((zR r1) ∧ ((r1 = (-1) → Q r1 M2) ∧ (¬ r1 = (-1) → (zP E mX11_forgetPlans [.inr (.inr 0)] M2 (fun r3 M4 => Q r1 M4))))))))
    : zP E mX11_candidate [.inr (.inr 0), .inl l1] M Q := by
  refine zP_of (by decide +kernel) rfl (Nat.le_of_ble_eq_true rfl) ?_
  show zA E zNN (0, 0) mX11_candidate 0 [(0, .inr (.inr 0)), (1, .inl l1)] [] M (zQ Q)
  refine zr_aload_n (pc' := 1) (i := 0) dX11_candidate_0 rfl rfl rfl ?_
  refine zr_get (pc' := 4) dX11_candidate_1 rfl ps_0 kd_0 fl_X11_40 kc_11 (gv_0_8 _) ?_
  refine zr_iload_n (pc' := 5) (i := 1) dX11_candidate_4 rfl rfl rfl ?_
  refine zn_callV (pc' := 8) (args := [.inl l1]) (st := []) (st' := fun r1 => [.inl r1]) dX11_candidate_5 rfl cv_X11_286 ⟨rfl, rfl, by decide, by decide⟩ rfl ps_28 kd_28 rfl rfl (Nat.le_of_ble_eq_true rfl) (fun _ => rfl) h ?_
  intro r1 M2 h
  refine zr_istore_n (pc' := 9) (i := 2) (al' := [(2, .inl r1), (0, .inr (.inr 0)), (1, .inl l1)]) dX11_candidate_8 rfl rfl (by decide) rfl ?_
  refine zr_iload_n (pc' := 10) (i := 2) dX11_candidate_9 rfl rfl rfl ?_
  refine zr_iconst (pc' := 11) dX11_candidate_10 rfl ?_
  refine zr_icmp_eq (tgt := 18) (pc' := 14) dX11_candidate_11 rfl rfl h.1 (zRd rfl) (fun hc => ?_) (fun hc => ?_)
  · have h := h.2.1 hc
    refine zr_iload_n (pc' := 19) (i := 2) dX11_candidate_18 rfl rfl rfl ?_
    exact zr_ireturn dX11_candidate_19 rfl rfl trivial (Nat.le_refl _) (Nat.le_refl _) (And.intro rfl h)
  · have h := h.2.2 hc
    refine zr_aload_n (pc' := 15) (i := 0) dX11_candidate_14 rfl rfl rfl ?_
    refine zn_callV (pc' := 18) (args := []) (st := []) (st' := fun _ => []) dX11_candidate_15 rfl cv_X11_289 ⟨rfl, rfl, by decide, by decide⟩ rfl ps_0 kd_0 rfl rfl (Nat.le_of_ble_eq_true rfl) (fun _ => rfl) h ?_
    intro r3 M4 h
    refine zr_iload_n (pc' := 19) (i := 2) dX11_candidate_18 rfl rfl rfl ?_
    exact zr_ireturn dX11_candidate_19 rfl rfl trivial (Nat.le_refl _) (Nat.le_refl _) (And.intro rfl h)
set_option maxRecDepth 20000 in
theorem vcX11_best {E : zE} {M : zM} {Q : Int → zM → Prop} (l1 l2 : Int)
    (h : (zP E mX11_within [.inl l1, .inl 0, .inl 2] M (fun r1 M2 => ((zR r1) ∧ ((r1 = 0 → Q (-1) M2) ∧ (¬ r1 = 0 → (zP E mX11_within [.inl l2, .inl 0, .inl 4] M2 (fun r3 M4 => ((zR r3) ∧ ((¬ r3 = 0 → (0 ≤ l1 ∧ l1 < 3) ∧ zIs_4 (M4 66 l1.toNat) ∧ ((zR (M4 ((M4 66 l1.toNat).toNat) 0)) ∧ ((¬ (M4 ((M4 66 l1.toNat).toNat) 0) = 0 → (zP E mX4_part [.inr (.inr (M4 66 l1.toNat)), .inl l2] M4 (fun r6 M7 => Q r6 M7))) ∧ ((M4 ((M4 66 l1.toNat).toNat) 0) = 0 → (zP E mX11_noteWarnings [.inr (.inr 0)] M4 (fun r8 M9 => (zP E mX11_lostCost [.inr (.inr 0)] M9 (fun r10 M11 => (zP E mX11_buriedCost [.inr (.inr 0)] M11 (fun r12 M13 => (zP E mX4_start [.inr (.inr (M4 66 l1.toNat)), .inl r10, .inl r12] M13 (fun r14 M15 => (zP E mX11_tryMoreWorks [.inr (.inr 0), .inr (.inr (M4 66 l1.toNat)), .inl l1] M15 (fun r16 M17 => (zP E mX4_part [.inr (.inr (M4 66 l1.toNat)), .inl l2] M17 (fun r18 M19 => Q r18 M19)))))))))))))))) ∧ (r3 = 0 → Q (-1) M4)))))))))))
    : zP E mX11_best [.inr (.inr 0), .inl l1, .inl l2] M Q := by
  refine zP_of (by decide +kernel) rfl (Nat.le_of_ble_eq_true rfl) ?_
  show zA E zNN (0, 0) mX11_best 0 [(0, .inr (.inr 0)), (1, .inl l1), (2, .inl l2)] [] M (zQ Q)
  refine zr_iload_n (pc' := 1) (i := 1) dX11_best_0 rfl rfl rfl ?_
  refine zr_iconst (pc' := 2) dX11_best_1 rfl ?_
  refine zr_iconst (pc' := 3) dX11_best_2 rfl ?_
  refine zn_callS (pc' := 6) (args := [.inl l1, .inl 0, .inl 2]) (st := []) (st' := fun r1 => [.inl r1]) dX11_best_3 rfl cs_X11_120 ⟨rfl, rfl, by decide, by decide⟩ rfl rfl rfl (Nat.le_of_ble_eq_true rfl) (fun _ => rfl) h ?_
  intro r1 M2 h
  refine zr_if_eq (tgt := 18) (pc' := 9) dX11_best_6 rfl rfl h.1 (fun hc => ?_) (fun hc => ?_)
  · have h := h.2.1 hc
    refine zr_iconst (pc' := 19) dX11_best_18 rfl ?_
    exact zr_ireturn dX11_best_19 rfl rfl trivial (Nat.le_refl _) (Nat.le_refl _) (And.intro rfl h)
  · have h := h.2.2 hc
    refine zr_iload_n (pc' := 10) (i := 2) dX11_best_9 rfl rfl rfl ?_
    refine zr_iconst (pc' := 11) dX11_best_10 rfl ?_
    refine zr_iconst (pc' := 12) dX11_best_11 rfl ?_
    refine zn_callS (pc' := 15) (args := [.inl l2, .inl 0, .inl 4]) (st := []) (st' := fun r3 => [.inl r3]) dX11_best_12 rfl cs_X11_120 ⟨rfl, rfl, by decide, by decide⟩ rfl rfl rfl (Nat.le_of_ble_eq_true rfl) (fun _ => rfl) h ?_
    intro r3 M4 h
    refine zr_if_ne (tgt := 20) (pc' := 18) dX11_best_15 rfl rfl h.1 (fun hc => ?_) (fun hc => ?_)
    · have h := h.2.1 hc
      refine zr_aload_n (pc' := 21) (i := 0) dX11_best_20 rfl rfl rfl ?_
      refine zr_get (pc' := 24) dX11_best_21 rfl ps_0 kd_0 fl_X11_77 kc_11 (gv_0_15 _) ?_
      refine zr_iload_n (pc' := 25) (i := 1) dX11_best_24 rfl rfl rfl ?_
      refine zr_aald (pc' := 26) (t0 := 4) dX11_best_25 rfl ps_66 kd_66 (by decide) (fun _ => rfl) (by decide) h.1.1 h.1.2 ?_
      have h := h.2
      refine zr_astore_n (pc' := 27) (i := 3) (al' := [(3, .inr (.inr (M4 66 l1.toNat))), (0, .inr (.inr 0)), (1, .inl l1), (2, .inl l2)]) dX11_best_26 rfl rfl (by decide) rfl ?_
      refine zr_aload_n (pc' := 28) (i := 3) dX11_best_27 rfl rfl rfl ?_
      have hi5 := h.1
      have h := h.2
      refine zr_get (pc' := 31) dX11_best_28 rfl (is_4_pos hi5) (is_4_kd hi5) fl_X11_292 kc_4 (is_4_gv_0 hi5 _) ?_
      refine zr_if_ne (tgt := 56) (pc' := 34) dX11_best_31 rfl rfl h.1 (fun hc => ?_) (fun hc => ?_)
      · have h := h.2.1 hc
        refine zr_aload_n (pc' := 57) (i := 3) dX11_best_56 rfl rfl rfl ?_
        refine zr_iload_n (pc' := 58) (i := 2) dX11_best_57 rfl rfl rfl ?_
        refine zn_callV (pc' := 61) (args := [.inl l2]) (st := []) (st' := fun r6 => [.inl r6]) dX11_best_58 rfl cv_X11_302 ⟨rfl, rfl, by decide, by decide⟩ rfl (is_4_pos hi5) (is_4_kd hi5) rfl rfl (Nat.le_of_ble_eq_true rfl) (fun _ => rfl) h ?_
        intro r6 M7 h
        exact zr_ireturn dX11_best_61 rfl rfl trivial (Nat.le_refl _) (Nat.le_refl _) (And.intro rfl h)
      · have h := h.2.2 hc
        refine zr_aload_n (pc' := 35) (i := 0) dX11_best_34 rfl rfl rfl ?_
        refine zn_callV (pc' := 38) (args := []) (st := []) (st' := fun _ => []) dX11_best_35 rfl cv_X11_249 ⟨rfl, rfl, by decide, by decide⟩ rfl ps_0 kd_0 rfl rfl (Nat.le_of_ble_eq_true rfl) (fun _ => rfl) h ?_
        intro r8 M9 h
        refine zr_aload_n (pc' := 39) (i := 3) dX11_best_38 rfl rfl rfl ?_
        refine zr_aload_n (pc' := 40) (i := 0) dX11_best_39 rfl rfl rfl ?_
        refine zn_callV (pc' := 43) (args := []) (st := [.inr (.inr (M4 66 l1.toNat))]) (st' := fun r10 => [.inl r10, .inr (.inr (M4 66 l1.toNat))]) dX11_best_40 rfl cv_X11_280 ⟨rfl, rfl, by decide, by decide⟩ rfl ps_0 kd_0 rfl rfl (Nat.le_of_ble_eq_true rfl) (fun _ => rfl) h ?_
        intro r10 M11 h
        refine zr_aload_n (pc' := 44) (i := 0) dX11_best_43 rfl rfl rfl ?_
        refine zn_callV (pc' := 47) (args := []) (st := [.inl r10, .inr (.inr (M4 66 l1.toNat))]) (st' := fun r12 => [.inl r12, .inl r10, .inr (.inr (M4 66 l1.toNat))]) dX11_best_44 rfl cv_X11_283 ⟨rfl, rfl, by decide, by decide⟩ rfl ps_0 kd_0 rfl rfl (Nat.le_of_ble_eq_true rfl) (fun _ => rfl) h ?_
        intro r12 M13 h
        refine zn_callV (pc' := 50) (args := [.inl r10, .inl r12]) (st := []) (st' := fun _ => []) dX11_best_47 rfl cv_X11_295 ⟨rfl, rfl, by decide, by decide⟩ rfl (is_4_pos hi5) (is_4_kd hi5) rfl rfl (Nat.le_of_ble_eq_true rfl) (fun _ => rfl) h ?_
        intro r14 M15 h
        refine zr_aload_n (pc' := 51) (i := 0) dX11_best_50 rfl rfl rfl ?_
        refine zr_aload_n (pc' := 52) (i := 3) dX11_best_51 rfl rfl rfl ?_
        refine zr_iload_n (pc' := 53) (i := 1) dX11_best_52 rfl rfl rfl ?_
        refine zn_callV (pc' := 56) (args := [.inr (.inr (M4 66 l1.toNat)), .inl l1]) (st := []) (st' := fun _ => []) dX11_best_53 rfl cv_X11_298 ⟨rfl, rfl, by decide, by decide⟩ rfl ps_0 kd_0 rfl rfl (Nat.le_of_ble_eq_true rfl) (fun _ => rfl) h ?_
        intro r16 M17 h
        refine zr_aload_n (pc' := 57) (i := 3) dX11_best_56 rfl rfl rfl ?_
        refine zr_iload_n (pc' := 58) (i := 2) dX11_best_57 rfl rfl rfl ?_
        refine zn_callV (pc' := 61) (args := [.inl l2]) (st := []) (st' := fun r18 => [.inl r18]) dX11_best_58 rfl cv_X11_302 ⟨rfl, rfl, by decide, by decide⟩ rfl (is_4_pos hi5) (is_4_kd hi5) rfl rfl (Nat.le_of_ble_eq_true rfl) (fun _ => rfl) h ?_
        intro r18 M19 h
        exact zr_ireturn dX11_best_61 rfl rfl trivial (Nat.le_refl _) (Nat.le_refl _) (And.intro rfl h)
    · have h := h.2.2 hc
      refine zr_iconst (pc' := 19) dX11_best_18 rfl ?_
      exact zr_ireturn dX11_best_19 rfl rfl trivial (Nat.le_refl _) (Nat.le_refl _) (And.intro rfl h)
set_option maxRecDepth 20000 in
theorem vcX11_wind {E : zE} {M : zM} {Q : Int → zM → Prop} (l1 l2 l3 : Int)
    (h : (zP E mX11_within [.inl l1, .inl 0, .inl 123] M (fun r1 M2 => ((zR r1) ∧ ((r1 = 0 → Q 0 M2) ∧ (¬ r1 = 0 → (zP E mX11_within [.inl l2, .inl 0, .inl 7] M2 (fun r3 M4 => ((zR r3) ∧ ((r3 = 0 → Q 0 M4) ∧ (¬ r3 = 0 → (zP E mX11_within [.inl l3, .inl 0, .inl 7] M4 (fun r5 M6 => ((zR r5) ∧ ((¬ r5 = 0 → (0 ≤ l1 ∧ l1 < 124) ∧ (∀ M7, M7 = zup M6 67 l1.toNat l2 → (0 ≤ l1 ∧ l1 < 124) ∧ (∀ M8, M8 = zup M7 68 l1.toNat l3 → Q 1 M8))) ∧ (r5 = 0 → Q 0 M6))))))))))))))))
    : zP E mX11_wind [.inr (.inr 0), .inl l1, .inl l2, .inl l3] M Q := by
  refine zP_of (by decide +kernel) rfl (Nat.le_of_ble_eq_true rfl) ?_
  show zA E zNN (0, 0) mX11_wind 0 [(0, .inr (.inr 0)), (1, .inl l1), (2, .inl l2), (3, .inl l3)] [] M (zQ Q)
  refine zr_iload_n (pc' := 1) (i := 1) dX11_wind_0 rfl rfl rfl ?_
  refine zr_iconst (pc' := 2) dX11_wind_1 rfl ?_
  refine zr_bipush (pc' := 4) dX11_wind_2 rfl rfl ?_
  refine zn_callS (pc' := 7) (args := [.inl l1, .inl 0, .inl 123]) (st := []) (st' := fun r1 => [.inl r1]) dX11_wind_4 rfl cs_X11_120 ⟨rfl, rfl, by decide, by decide⟩ rfl rfl rfl (Nat.le_of_ble_eq_true rfl) (fun _ => rfl) h ?_
  intro r1 M2 h
  refine zr_if_eq (tgt := 30) (pc' := 10) dX11_wind_7 rfl rfl h.1 (fun hc => ?_) (fun hc => ?_)
  · have h := h.2.1 hc
    refine zr_iconst (pc' := 31) dX11_wind_30 rfl ?_
    exact zr_ireturn dX11_wind_31 rfl rfl (Or.inl rfl) (Nat.le_refl _) (Nat.le_refl _) (And.intro rfl h)
  · have h := h.2.2 hc
    refine zr_iload_n (pc' := 11) (i := 2) dX11_wind_10 rfl rfl rfl ?_
    refine zr_iconst (pc' := 12) dX11_wind_11 rfl ?_
    refine zr_bipush (pc' := 14) dX11_wind_12 rfl rfl ?_
    refine zn_callS (pc' := 17) (args := [.inl l2, .inl 0, .inl 7]) (st := []) (st' := fun r3 => [.inl r3]) dX11_wind_14 rfl cs_X11_120 ⟨rfl, rfl, by decide, by decide⟩ rfl rfl rfl (Nat.le_of_ble_eq_true rfl) (fun _ => rfl) h ?_
    intro r3 M4 h
    refine zr_if_eq (tgt := 30) (pc' := 20) dX11_wind_17 rfl rfl h.1 (fun hc => ?_) (fun hc => ?_)
    · have h := h.2.1 hc
      refine zr_iconst (pc' := 31) dX11_wind_30 rfl ?_
      exact zr_ireturn dX11_wind_31 rfl rfl (Or.inl rfl) (Nat.le_refl _) (Nat.le_refl _) (And.intro rfl h)
    · have h := h.2.2 hc
      refine zr_iload_n (pc' := 21) (i := 3) dX11_wind_20 rfl rfl rfl ?_
      refine zr_iconst (pc' := 22) dX11_wind_21 rfl ?_
      refine zr_bipush (pc' := 24) dX11_wind_22 rfl rfl ?_
      refine zn_callS (pc' := 27) (args := [.inl l3, .inl 0, .inl 7]) (st := []) (st' := fun r5 => [.inl r5]) dX11_wind_24 rfl cs_X11_120 ⟨rfl, rfl, by decide, by decide⟩ rfl rfl rfl (Nat.le_of_ble_eq_true rfl) (fun _ => rfl) h ?_
      intro r5 M6 h
      refine zr_if_ne (tgt := 32) (pc' := 30) dX11_wind_27 rfl rfl h.1 (fun hc => ?_) (fun hc => ?_)
      · have h := h.2.1 hc
        refine zr_aload_n (pc' := 33) (i := 0) dX11_wind_32 rfl rfl rfl ?_
        refine zr_get (pc' := 36) dX11_wind_33 rfl ps_0 kd_0 fl_X11_81 kc_11 (gv_0_16 _) ?_
        refine zr_iload_n (pc' := 37) (i := 1) dX11_wind_36 rfl rfl rfl ?_
        refine zr_iload_n (pc' := 38) (i := 2) dX11_wind_37 rfl rfl rfl ?_
        refine zr_iast (pc' := 39) dX11_wind_38 rfl ps_67 kd_67 (by decide) h.1.1 h.1.2 (fun M7 hM1 => ?_)
        have h := h.2 M7 hM1
        refine zr_aload_n (pc' := 40) (i := 0) dX11_wind_39 rfl rfl rfl ?_
        refine zr_get (pc' := 43) dX11_wind_40 rfl ps_0 kd_0 fl_X11_84 kc_11 (gv_0_17 _) ?_
        refine zr_iload_n (pc' := 44) (i := 1) dX11_wind_43 rfl rfl rfl ?_
        refine zr_iload_n (pc' := 45) (i := 3) dX11_wind_44 rfl rfl rfl ?_
        refine zr_iast (pc' := 46) dX11_wind_45 rfl ps_68 kd_68 (by decide) h.1.1 h.1.2 (fun M8 hM1 => ?_)
        have h := h.2 M8 hM1
        refine zr_iconst (pc' := 47) dX11_wind_46 rfl ?_
        exact zr_ireturn dX11_wind_47 rfl rfl (Or.inr rfl) (Nat.le_refl _) (Nat.le_refl _) (And.intro rfl h)
      · have h := h.2.2 hc
        refine zr_iconst (pc' := 31) dX11_wind_30 rfl ?_
        exact zr_ireturn dX11_wind_31 rfl rfl (Or.inl rfl) (Nat.le_refl _) (Nat.le_refl _) (And.intro rfl h)
