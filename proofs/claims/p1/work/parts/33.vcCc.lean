set_option maxRecDepth 20000 in
theorem vcX7_takeLineWord {E : zE} {M : zM} {Q : Int → zM → Prop} (l1 : Int) (hi1 : zIs_6 l1)
    (h : ((zR (M 2 4)) ∧ ((¬ (M 2 4) = 0 → ((zR (M 2 4)) ∧ ((¬ (M 2 4) = 1 → Q 1 M) ∧ ((M 2 4) = 1 → (∀ M1, M1 = zup M 1 3 3 → ((zR (M1 l1.toNat 8)) ∧ (((M1 l1.toNat 8) < 12 → Q 0 M1) ∧ (12 ≤ (M1 l1.toNat 8) → Q 2 M1)))))))) ∧ ((M 2 4) = 0 → (∀ M2, M2 = zup M 1 3 1 → ((zR (M2 l1.toNat 11)) ∧ (((M2 l1.toNat 11) = 0 → Q 0 M2) ∧ (¬ (M2 l1.toNat 11) = 0 → Q 3 M2))))))))
    : zP E mX7_takeLineWord [.inr (.inr 1), .inr (.inr l1)] M Q := by
  refine zP_of (by decide +kernel) rfl (Nat.le_of_ble_eq_true rfl) ?_
  show zA E zNN (0, 0) mX7_takeLineWord 0 [(0, .inr (.inr 1)), (1, .inr (.inr l1))] [] M (zQ Q)
  refine zr_aload_n (pc' := 1) (i := 0) dX7_takeLineWord_0 rfl rfl rfl ?_
  refine zr_get (pc' := 4) dX7_takeLineWord_1 rfl ps_1 kd_1 fl_X7_12 kc_7 (gv_1_0 _) ?_
  refine zr_get (pc' := 7) dX7_takeLineWord_4 rfl ps_2 kd_2 fl_X7_51 kc_9 (gv_2_4 _) ?_
  refine zr_if_ne (tgt := 28) (pc' := 10) dX7_takeLineWord_7 rfl rfl h.1 (fun hc => ?_) (fun hc => ?_)
  · have h := h.2.1 hc
    refine zr_aload_n (pc' := 29) (i := 0) dX7_takeLineWord_28 rfl rfl rfl ?_
    refine zr_get (pc' := 32) dX7_takeLineWord_29 rfl ps_1 kd_1 fl_X7_12 kc_7 (gv_1_0 _) ?_
    refine zr_get (pc' := 35) dX7_takeLineWord_32 rfl ps_2 kd_2 fl_X7_51 kc_9 (gv_2_4 _) ?_
    refine zr_iconst (pc' := 36) dX7_takeLineWord_35 rfl ?_
    refine zr_icmp_ne (tgt := 59) (pc' := 39) dX7_takeLineWord_36 rfl rfl h.1 (zRd rfl) (fun hc => ?_) (fun hc => ?_)
    · have h := h.2.1 hc
      refine zr_iconst (pc' := 60) dX7_takeLineWord_59 rfl ?_
      exact zr_ireturn dX7_takeLineWord_60 rfl rfl trivial (Nat.le_refl _) (Nat.le_refl _) (And.intro rfl h)
    · have h := h.2.2 hc
      refine zr_aload_n (pc' := 40) (i := 0) dX7_takeLineWord_39 rfl rfl rfl ?_
      refine zr_iconst (pc' := 41) dX7_takeLineWord_40 rfl ?_
      refine zr_put (pc' := 44) dX7_takeLineWord_41 rfl ps_1 kd_1 fl_X7_42 kc_7 rfl nf_1_3 rfl trivial (fun M1 hM1 => ?_)
      have h := h M1 hM1
      refine zr_aload_n (pc' := 45) (i := 1) dX7_takeLineWord_44 rfl rfl rfl ?_
      refine zr_get (pc' := 48) dX7_takeLineWord_45 rfl (is_6_pos hi1) (is_6_kd hi1) fl_X7_87 kc_6 (is_6_gv_8 hi1 _) ?_
      refine zr_bipush (pc' := 50) dX7_takeLineWord_48 rfl rfl ?_
      refine zr_icmp_lt (tgt := 57) (pc' := 53) dX7_takeLineWord_50 rfl rfl h.1 (zRd rfl) (fun hc => ?_) (fun hc => ?_)
      · have h := h.2.1 hc
        refine zr_iconst (pc' := 58) dX7_takeLineWord_57 rfl ?_
        exact zr_ireturn dX7_takeLineWord_58 rfl rfl trivial (Nat.le_refl _) (Nat.le_refl _) (And.intro rfl h)
      · have h := h.2.2 hc
        refine zr_iconst (pc' := 54) dX7_takeLineWord_53 rfl ?_
        refine zr_goto (pc' := 58) dX7_takeLineWord_54 rfl ?_
        exact zr_ireturn dX7_takeLineWord_58 rfl rfl trivial (Nat.le_refl _) (Nat.le_refl _) (And.intro rfl h)
  · have h := h.2.2 hc
    refine zr_aload_n (pc' := 11) (i := 0) dX7_takeLineWord_10 rfl rfl rfl ?_
    refine zr_iconst (pc' := 12) dX7_takeLineWord_11 rfl ?_
    refine zr_put (pc' := 15) dX7_takeLineWord_12 rfl ps_1 kd_1 fl_X7_42 kc_7 rfl nf_1_3 rfl trivial (fun M2 hM1 => ?_)
    have h := h M2 hM1
    refine zr_aload_n (pc' := 16) (i := 1) dX7_takeLineWord_15 rfl rfl rfl ?_
    refine zr_get (pc' := 19) dX7_takeLineWord_16 rfl (is_6_pos hi1) (is_6_kd hi1) fl_X7_83 kc_6 (is_6_gv_11 hi1 _) ?_
    refine zr_if_eq (tgt := 26) (pc' := 22) dX7_takeLineWord_19 rfl rfl h.1 (fun hc => ?_) (fun hc => ?_)
    · have h := h.2.1 hc
      refine zr_iconst (pc' := 27) dX7_takeLineWord_26 rfl ?_
      exact zr_ireturn dX7_takeLineWord_27 rfl rfl trivial (Nat.le_refl _) (Nat.le_refl _) (And.intro rfl h)
    · have h := h.2.2 hc
      refine zr_iconst (pc' := 23) dX7_takeLineWord_22 rfl ?_
      refine zr_goto (pc' := 27) dX7_takeLineWord_23 rfl ?_
      exact zr_ireturn dX7_takeLineWord_27 rfl rfl trivial (Nat.le_refl _) (Nat.le_refl _) (And.intro rfl h)
set_option maxRecDepth 20000 in
theorem vcX7_judgeNumber {E : zE} {M : zM} {Q : Int → zM → Prop} (l1 l2 : Int)
    (h : ((zR (M 2 4)) ∧ (((M 2 4) = 16 → (zP E mX11_within [.inl (M 2 6), .inl l1, .inl l2] M (fun r1 M2 => ((zR r1) ∧ ((r1 = 0 → Q 2 M2) ∧ (¬ r1 = 0 → Q 0 M2)))))) ∧ (¬ (M 2 4) = 16 → Q 1 M))))
    : zP E mX7_judgeNumber [.inr (.inr 1), .inl l1, .inl l2] M Q := by
  refine zP_of (by decide +kernel) rfl (Nat.le_of_ble_eq_true rfl) ?_
  show zA E zNN (0, 0) mX7_judgeNumber 0 [(0, .inr (.inr 1)), (1, .inl l1), (2, .inl l2)] [] M (zQ Q)
  refine zr_aload_n (pc' := 1) (i := 0) dX7_judgeNumber_0 rfl rfl rfl ?_
  refine zr_get (pc' := 4) dX7_judgeNumber_1 rfl ps_1 kd_1 fl_X7_12 kc_7 (gv_1_0 _) ?_
  refine zr_get (pc' := 7) dX7_judgeNumber_4 rfl ps_2 kd_2 fl_X7_51 kc_9 (gv_2_4 _) ?_
  refine zr_bipush (pc' := 9) dX7_judgeNumber_7 rfl rfl ?_
  refine zr_icmp_eq (tgt := 14) (pc' := 12) dX7_judgeNumber_9 rfl rfl h.1 (zRd rfl) (fun hc => ?_) (fun hc => ?_)
  · have h := h.2.1 hc
    refine zr_aload_n (pc' := 15) (i := 0) dX7_judgeNumber_14 rfl rfl rfl ?_
    refine zr_get (pc' := 18) dX7_judgeNumber_15 rfl ps_1 kd_1 fl_X7_12 kc_7 (gv_1_0 _) ?_
    refine zr_get (pc' := 21) dX7_judgeNumber_18 rfl ps_2 kd_2 fl_X7_90 kc_9 (gv_2_6 _) ?_
    refine zr_iload_n (pc' := 22) (i := 1) dX7_judgeNumber_21 rfl rfl rfl ?_
    refine zr_iload_n (pc' := 23) (i := 2) dX7_judgeNumber_22 rfl rfl rfl ?_
    refine zn_callSN (pc' := 26) (args := [.inl (M 2 6), .inl l1, .inl l2]) (st := []) (st' := fun r1 => [.inl r1]) dX7_judgeNumber_23 rfl cs_X7_93 ⟨rfl, rfl, by decide, by decide⟩ rfl rfl rfl (Nat.le_of_ble_eq_true rfl) (fun _ => rfl) h ?_
    intro r1 M2 h
    refine zr_if_eq (tgt := 33) (pc' := 29) dX7_judgeNumber_26 rfl rfl h.1 (fun hc => ?_) (fun hc => ?_)
    · have h := h.2.1 hc
      refine zr_iconst (pc' := 34) dX7_judgeNumber_33 rfl ?_
      exact zr_ireturn dX7_judgeNumber_34 rfl rfl trivial (Nat.le_refl _) (Nat.le_refl _) (And.intro rfl h)
    · have h := h.2.2 hc
      refine zr_iconst (pc' := 30) dX7_judgeNumber_29 rfl ?_
      refine zr_goto (pc' := 34) dX7_judgeNumber_30 rfl ?_
      exact zr_ireturn dX7_judgeNumber_34 rfl rfl trivial (Nat.le_refl _) (Nat.le_refl _) (And.intro rfl h)
  · have h := h.2.2 hc
    refine zr_iconst (pc' := 13) dX7_judgeNumber_12 rfl ?_
    exact zr_ireturn dX7_judgeNumber_13 rfl rfl trivial (Nat.le_refl _) (Nat.le_refl _) (And.intro rfl h)
set_option maxRecDepth 20000 in
theorem vcX7_takeKeep {E : zE} {M : zM} {Q : Int → zM → Prop} (l1 : Int) (hi1 : zIs_6 l1)
    (h : (∀ M1, M1 = zup M l1.toNat 11 1 → (∀ M2, M2 = zup M1 l1.toNat 10 (M1 2 6) → (∀ M3, M3 = zup M2 1 3 2 → (zP E mX7_judgeNumber [.inr (.inr 1), .inl 0, .inl 24] M3 (fun r4 M5 => Q r4 M5))))))
    : zP E mX7_takeKeep [.inr (.inr 1), .inr (.inr l1)] M Q := by
  refine zP_of (by decide +kernel) rfl (Nat.le_of_ble_eq_true rfl) ?_
  show zA E zNN (0, 0) mX7_takeKeep 0 [(0, .inr (.inr 1)), (1, .inr (.inr l1))] [] M (zQ Q)
  refine zr_aload_n (pc' := 1) (i := 1) dX7_takeKeep_0 rfl rfl rfl ?_
  refine zr_iconst (pc' := 2) dX7_takeKeep_1 rfl ?_
  refine zr_put (pc' := 5) dX7_takeKeep_2 rfl (is_6_pos hi1) (is_6_kd hi1) fl_X7_83 kc_6 rfl (is_6_nf_11 hi1) rfl (Or.inr rfl) (fun M1 hM1 => ?_)
  have h := h M1 hM1
  refine zr_aload_n (pc' := 6) (i := 1) dX7_takeKeep_5 rfl rfl rfl ?_
  refine zr_aload_n (pc' := 7) (i := 0) dX7_takeKeep_6 rfl rfl rfl ?_
  refine zr_get (pc' := 10) dX7_takeKeep_7 rfl ps_1 kd_1 fl_X7_12 kc_7 (gv_1_0 _) ?_
  refine zr_get (pc' := 13) dX7_takeKeep_10 rfl ps_2 kd_2 fl_X7_90 kc_9 (gv_2_6 _) ?_
  refine zr_put (pc' := 16) dX7_takeKeep_13 rfl (is_6_pos hi1) (is_6_kd hi1) fl_X7_97 kc_6 rfl (is_6_nf_10 hi1) rfl trivial (fun M2 hM1 => ?_)
  have h := h M2 hM1
  refine zr_aload_n (pc' := 17) (i := 0) dX7_takeKeep_16 rfl rfl rfl ?_
  refine zr_iconst (pc' := 18) dX7_takeKeep_17 rfl ?_
  refine zr_put (pc' := 21) dX7_takeKeep_18 rfl ps_1 kd_1 fl_X7_42 kc_7 rfl nf_1_3 rfl trivial (fun M3 hM1 => ?_)
  have h := h M3 hM1
  refine zr_aload_n (pc' := 22) (i := 0) dX7_takeKeep_21 rfl rfl rfl ?_
  refine zr_iconst (pc' := 23) dX7_takeKeep_22 rfl ?_
  refine zr_bipush (pc' := 25) dX7_takeKeep_23 rfl rfl ?_
  refine zn_callV (pc' := 28) (args := [.inl 0, .inl 24]) (st := []) (st' := fun r4 => [.inl r4]) dX7_takeKeep_25 rfl cv_X7_100 ⟨rfl, rfl, by decide, by decide⟩ rfl ps_1 kd_1 rfl rfl (Nat.le_of_ble_eq_true rfl) (fun _ => rfl) h ?_
  intro r4 M5 h
  exact zr_ireturn dX7_takeKeep_28 rfl rfl trivial (Nat.le_refl _) (Nat.le_refl _) (And.intro rfl h)
set_option maxRecDepth 20000 in
theorem vcX7_takeKeepEnd {E : zE} {M : zM} {Q : Int → zM → Prop}
    (h : (∀ M1, M1 = zup M 1 4 ((M 1 4) + 1) → (∀ M2, M2 = zup M1 1 3 0 → ((zR (M2 2 4)) ∧ ((¬ (M2 2 4) = 17 → Q 1 M2) ∧ ((M2 2 4) = 17 → Q 0 M2))))))
    : zP E mX7_takeKeepEnd [.inr (.inr 1)] M Q := by
  refine zP_of (by decide +kernel) rfl (Nat.le_of_ble_eq_true rfl) ?_
  show zA E zNN (0, 0) mX7_takeKeepEnd 0 [(0, .inr (.inr 1))] [] M (zQ Q)
  refine zr_aload_n (pc' := 1) (i := 0) dX7_takeKeepEnd_0 rfl rfl rfl ?_
  refine zr_dup (pc' := 2) dX7_takeKeepEnd_1 rfl rfl ?_
  refine zr_get (pc' := 5) dX7_takeKeepEnd_2 rfl ps_1 kd_1 fl_X7_45 kc_7 (gv_1_4 _) ?_
  refine zr_iconst (pc' := 6) dX7_takeKeepEnd_5 rfl ?_
  refine zr_iadd (pc' := 7) dX7_takeKeepEnd_6 rfl ?_
  refine zr_put (pc' := 10) dX7_takeKeepEnd_7 rfl ps_1 kd_1 fl_X7_45 kc_7 rfl nf_1_4 rfl trivial (fun M1 hM1 => ?_)
  have h := h M1 hM1
  refine zr_aload_n (pc' := 11) (i := 0) dX7_takeKeepEnd_10 rfl rfl rfl ?_
  refine zr_iconst (pc' := 12) dX7_takeKeepEnd_11 rfl ?_
  refine zr_put (pc' := 15) dX7_takeKeepEnd_12 rfl ps_1 kd_1 fl_X7_42 kc_7 rfl nf_1_3 rfl trivial (fun M2 hM1 => ?_)
  have h := h M2 hM1
  refine zr_aload_n (pc' := 16) (i := 0) dX7_takeKeepEnd_15 rfl rfl rfl ?_
  refine zr_get (pc' := 19) dX7_takeKeepEnd_16 rfl ps_1 kd_1 fl_X7_12 kc_7 (gv_1_0 _) ?_
  refine zr_get (pc' := 22) dX7_takeKeepEnd_19 rfl ps_2 kd_2 fl_X7_51 kc_9 (gv_2_4 _) ?_
  refine zr_bipush (pc' := 24) dX7_takeKeepEnd_22 rfl rfl ?_
  refine zr_icmp_ne (tgt := 31) (pc' := 27) dX7_takeKeepEnd_24 rfl rfl h.1 (zRd rfl) (fun hc => ?_) (fun hc => ?_)
  · have h := h.2.1 hc
    refine zr_iconst (pc' := 32) dX7_takeKeepEnd_31 rfl ?_
    exact zr_ireturn dX7_takeKeepEnd_32 rfl rfl trivial (Nat.le_refl _) (Nat.le_refl _) (And.intro rfl h)
  · have h := h.2.2 hc
    refine zr_iconst (pc' := 28) dX7_takeKeepEnd_27 rfl ?_
    refine zr_goto (pc' := 32) dX7_takeKeepEnd_28 rfl ?_
    exact zr_ireturn dX7_takeKeepEnd_32 rfl rfl trivial (Nat.le_refl _) (Nat.le_refl _) (And.intro rfl h)
set_option maxRecDepth 20000 in
theorem vcX7_takeLevel {E : zE} {M : zM} {Q : Int → zM → Prop}
    (h : (∀ M1, M1 = zup M 1 5 (M 2 6) → (∀ M2, M2 = zup M1 1 7 0 → (∀ M3, M3 = zup M2 1 8 0 → (∀ M4, M4 = zup M3 5 0 0 → (∀ M5, M5 = zup M4 1 10 1 → (∀ M6, M6 = zup M5 1 3 4 → (zP E mX7_judgeNumber [.inr (.inr 1), .inl 1, .inl 4] M6 (fun r7 M8 => Q r7 M8)))))))))
    : zP E mX7_takeLevel [.inr (.inr 1)] M Q := by
  refine zP_of (by decide +kernel) rfl (Nat.le_of_ble_eq_true rfl) ?_
  show zA E zNN (0, 0) mX7_takeLevel 0 [(0, .inr (.inr 1))] [] M (zQ Q)
  refine zr_aload_n (pc' := 1) (i := 0) dX7_takeLevel_0 rfl rfl rfl ?_
  refine zr_aload_n (pc' := 2) (i := 0) dX7_takeLevel_1 rfl rfl rfl ?_
  refine zr_get (pc' := 5) dX7_takeLevel_2 rfl ps_1 kd_1 fl_X7_12 kc_7 (gv_1_0 _) ?_
  refine zr_get (pc' := 8) dX7_takeLevel_5 rfl ps_2 kd_2 fl_X7_90 kc_9 (gv_2_6 _) ?_
  refine zr_put (pc' := 11) dX7_takeLevel_8 rfl ps_1 kd_1 fl_X7_104 kc_7 rfl nf_1_5 rfl trivial (fun M1 hM1 => ?_)
  have h := h M1 hM1
  refine zr_aload_n (pc' := 12) (i := 0) dX7_takeLevel_11 rfl rfl rfl ?_
  refine zr_iconst (pc' := 13) dX7_takeLevel_12 rfl ?_
  refine zr_put (pc' := 16) dX7_takeLevel_13 rfl ps_1 kd_1 fl_X7_107 kc_7 rfl nf_1_7 rfl trivial (fun M2 hM1 => ?_)
  have h := h M2 hM1
  refine zr_aload_n (pc' := 17) (i := 0) dX7_takeLevel_16 rfl rfl rfl ?_
  refine zr_iconst (pc' := 18) dX7_takeLevel_17 rfl ?_
  refine zr_put (pc' := 21) dX7_takeLevel_18 rfl ps_1 kd_1 fl_X7_110 kc_7 rfl nf_1_8 rfl trivial (fun M3 hM1 => ?_)
  have h := h M3 hM1
  refine zr_aload_n (pc' := 22) (i := 0) dX7_takeLevel_21 rfl rfl rfl ?_
  refine zr_get (pc' := 25) dX7_takeLevel_22 rfl ps_1 kd_1 fl_X7_28 kc_7 (gv_1_9 _) ?_
  refine zr_iconst (pc' := 26) dX7_takeLevel_25 rfl ?_
  refine zr_iconst (pc' := 27) dX7_takeLevel_26 rfl ?_
  refine zr_zast (pc' := 28) dX7_takeLevel_27 rfl ps_5 kd_5 (by decide) (by decide) (by decide) (Or.inl rfl) (fun M4 hM1 => ?_)
  have h := h M4 hM1
  refine zr_aload_n (pc' := 29) (i := 0) dX7_takeLevel_28 rfl rfl rfl ?_
  refine zr_iconst (pc' := 30) dX7_takeLevel_29 rfl ?_
  refine zr_put (pc' := 33) dX7_takeLevel_30 rfl ps_1 kd_1 fl_X7_113 kc_7 rfl nf_1_10 rfl (Or.inr rfl) (fun M5 hM1 => ?_)
  have h := h M5 hM1
  refine zr_aload_n (pc' := 34) (i := 0) dX7_takeLevel_33 rfl rfl rfl ?_
  refine zr_iconst (pc' := 35) dX7_takeLevel_34 rfl ?_
  refine zr_put (pc' := 38) dX7_takeLevel_35 rfl ps_1 kd_1 fl_X7_42 kc_7 rfl nf_1_3 rfl trivial (fun M6 hM1 => ?_)
  have h := h M6 hM1
  refine zr_aload_n (pc' := 39) (i := 0) dX7_takeLevel_38 rfl rfl rfl ?_
  refine zr_iconst (pc' := 40) dX7_takeLevel_39 rfl ?_
  refine zr_iconst (pc' := 41) dX7_takeLevel_40 rfl ?_
  refine zn_callV (pc' := 44) (args := [.inl 1, .inl 4]) (st := []) (st' := fun r7 => [.inl r7]) dX7_takeLevel_41 rfl cv_X7_100 ⟨rfl, rfl, by decide, by decide⟩ rfl ps_1 kd_1 rfl rfl (Nat.le_of_ble_eq_true rfl) (fun _ => rfl) h ?_
  intro r7 M8 h
  exact zr_ireturn dX7_takeLevel_44 rfl rfl trivial (Nat.le_refl _) (Nat.le_refl _) (And.intro rfl h)
set_option maxRecDepth 20000 in
theorem vcX7_takeAheadOfOperand {E : zE} {M : zM} {Q : Int → zM → Prop} (l1 : Int) (hi1 : zIs_6 l1)
    (h : ((zR (M 2 4)) ∧ ((¬ (M 2 4) = 18 → ((zR (M 2 4)) ∧ ((¬ (M 2 4) = 16 → ((zR (M 2 4)) ∧ (((M 2 4) < 5 → ((zR (M 2 4)) ∧ ((¬ (M 2 4) = 22 → ((zR (M 2 4)) ∧ ((¬ (M 2 4) = 4 → Q 1 M) ∧ ((M 2 4) = 4 → ((zR (M 1 10)) ∧ (((M 1 10) = 0 → Q 1 M) ∧ (¬ (M 1 10) = 0 → (zP E mX7_await [.inr (.inr 1), .inl 4] M (fun r1 M2 => (zP E mX7_countKnot [.inr (.inr 1), .inr (.inr l1)] M2 (fun r3 M4 => Q r3 M4))))))))))) ∧ ((M 2 4) = 22 → (∀ M5, M5 = zup M 1 10 0 → (zP E mX7_await [.inr (.inr 1), .inl 31] M5 (fun r6 M7 => (zP E mX7_countKnot [.inr (.inr 1), .inr (.inr l1)] M7 (fun r8 M9 => Q r8 M9))))))))) ∧ (5 ≤ (M 2 4) → ((zR (M 2 4)) ∧ ((11 < (M 2 4) → ((zR (M 2 4)) ∧ ((¬ (M 2 4) = 22 → ((zR (M 2 4)) ∧ ((¬ (M 2 4) = 4 → Q 1 M) ∧ ((M 2 4) = 4 → ((zR (M 1 10)) ∧ (((M 1 10) = 0 → Q 1 M) ∧ (¬ (M 1 10) = 0 → (zP E mX7_await [.inr (.inr 1), .inl 4] M (fun r10 M11 => (zP E mX7_countKnot [.inr (.inr 1), .inr (.inr l1)] M11 (fun r12 M13 => Q r12 M13))))))))))) ∧ ((M 2 4) = 22 → (∀ M14, M14 = zup M 1 10 0 → (zP E mX7_await [.inr (.inr 1), .inl 31] M14 (fun r15 M16 => (zP E mX7_countKnot [.inr (.inr 1), .inr (.inr l1)] M16 (fun r17 M18 => Q r17 M18))))))))) ∧ ((M 2 4) ≤ 11 → (∀ M19, M19 = zup M 1 11 (M 2 4) → (∀ M20, M20 = zup M19 1 3 6 → (zP E mX7_countKnot [.inr (.inr 1), .inr (.inr l1)] M20 (fun r21 M22 => Q r21 M22))))))))))) ∧ ((M 2 4) = 16 → (zP E mX7_takePlainNumber [.inr (.inr 1), .inr (.inr l1)] M (fun r23 M24 => Q r23 M24)))))) ∧ ((M 2 4) = 18 → (zP E mX7_takeOpen [.inr (.inr 1)] M (fun r25 M26 => Q r25 M26))))))
    : zP E mX7_takeAheadOfOperand [.inr (.inr 1), .inr (.inr l1)] M Q := by
  refine zP_of (by decide +kernel) rfl (Nat.le_of_ble_eq_true rfl) ?_
  show zA E zNN (0, 0) mX7_takeAheadOfOperand 0 [(0, .inr (.inr 1)), (1, .inr (.inr l1))] [] M (zQ Q)
  refine zr_aload_n (pc' := 1) (i := 0) dX7_takeAheadOfOperand_0 rfl rfl rfl ?_
  refine zr_get (pc' := 4) dX7_takeAheadOfOperand_1 rfl ps_1 kd_1 fl_X7_12 kc_7 (gv_1_0 _) ?_
  refine zr_get (pc' := 7) dX7_takeAheadOfOperand_4 rfl ps_2 kd_2 fl_X7_51 kc_9 (gv_2_4 _) ?_
  refine zr_istore_n (pc' := 8) (i := 2) (al' := [(2, .inl (M 2 4)), (0, .inr (.inr 1)), (1, .inr (.inr l1))]) dX7_takeAheadOfOperand_7 rfl rfl (by decide) rfl ?_
  refine zr_iload_n (pc' := 9) (i := 2) dX7_takeAheadOfOperand_8 rfl rfl rfl ?_
  refine zr_bipush (pc' := 11) dX7_takeAheadOfOperand_9 rfl rfl ?_
  refine zr_icmp_ne (tgt := 19) (pc' := 14) dX7_takeAheadOfOperand_11 rfl rfl h.1 (zRd rfl) (fun hc => ?_) (fun hc => ?_)
  · have h := h.2.1 hc
    refine zr_iload_n (pc' := 20) (i := 2) dX7_takeAheadOfOperand_19 rfl rfl rfl ?_
    refine zr_bipush (pc' := 22) dX7_takeAheadOfOperand_20 rfl rfl ?_
    refine zr_icmp_ne (tgt := 31) (pc' := 25) dX7_takeAheadOfOperand_22 rfl rfl h.1 (zRd rfl) (fun hc => ?_) (fun hc => ?_)
    · have h := h.2.1 hc
      refine zr_iload_n (pc' := 32) (i := 2) dX7_takeAheadOfOperand_31 rfl rfl rfl ?_
      refine zr_iconst (pc' := 33) dX7_takeAheadOfOperand_32 rfl ?_
      refine zr_icmp_lt (tgt := 59) (pc' := 36) dX7_takeAheadOfOperand_33 rfl rfl h.1 (zRd rfl) (fun hc => ?_) (fun hc => ?_)
      · have h := h.2.1 hc
        refine zr_iload_n (pc' := 60) (i := 2) dX7_takeAheadOfOperand_59 rfl rfl rfl ?_
        refine zr_bipush (pc' := 62) dX7_takeAheadOfOperand_60 rfl rfl ?_
        refine zr_icmp_ne (tgt := 82) (pc' := 65) dX7_takeAheadOfOperand_62 rfl rfl h.1 (zRd rfl) (fun hc => ?_) (fun hc => ?_)
        · have h := h.2.1 hc
          refine zr_iload_n (pc' := 83) (i := 2) dX7_takeAheadOfOperand_82 rfl rfl rfl ?_
          refine zr_iconst (pc' := 84) dX7_takeAheadOfOperand_83 rfl ?_
          refine zr_icmp_ne (tgt := 105) (pc' := 87) dX7_takeAheadOfOperand_84 rfl rfl h.1 (zRd rfl) (fun hc => ?_) (fun hc => ?_)
          · have h := h.2.1 hc
            refine zr_iconst (pc' := 106) dX7_takeAheadOfOperand_105 rfl ?_
            exact zr_ireturn dX7_takeAheadOfOperand_106 rfl rfl trivial (Nat.le_refl _) (Nat.le_refl _) (And.intro rfl h)
          · have h := h.2.2 hc
            refine zr_aload_n (pc' := 88) (i := 0) dX7_takeAheadOfOperand_87 rfl rfl rfl ?_
            refine zr_get (pc' := 91) dX7_takeAheadOfOperand_88 rfl ps_1 kd_1 fl_X7_113 kc_7 (gv_1_10 _) ?_
            refine zr_if_eq (tgt := 105) (pc' := 94) dX7_takeAheadOfOperand_91 rfl rfl h.1 (fun hc => ?_) (fun hc => ?_)
            · have h := h.2.1 hc
              refine zr_iconst (pc' := 106) dX7_takeAheadOfOperand_105 rfl ?_
              exact zr_ireturn dX7_takeAheadOfOperand_106 rfl rfl trivial (Nat.le_refl _) (Nat.le_refl _) (And.intro rfl h)
            · have h := h.2.2 hc
              refine zr_aload_n (pc' := 95) (i := 0) dX7_takeAheadOfOperand_94 rfl rfl rfl ?_
              refine zr_iconst (pc' := 96) dX7_takeAheadOfOperand_95 rfl ?_
              refine zn_callV (pc' := 99) (args := [.inl 4]) (st := []) (st' := fun _ => []) dX7_takeAheadOfOperand_96 rfl cv_X7_128 ⟨rfl, rfl, by decide, by decide⟩ rfl ps_1 kd_1 rfl rfl (Nat.le_of_ble_eq_true rfl) (fun _ => rfl) h ?_
              intro r1 M2 h
              refine zr_aload_n (pc' := 100) (i := 0) dX7_takeAheadOfOperand_99 rfl rfl rfl ?_
              refine zr_aload_n (pc' := 101) (i := 1) dX7_takeAheadOfOperand_100 rfl rfl rfl ?_
              refine zn_callV (pc' := 104) (args := [.inr (.inr l1)]) (st := []) (st' := fun r3 => [.inl r3]) dX7_takeAheadOfOperand_101 rfl cv_X7_125 ⟨rfl, rfl, by decide, by decide⟩ rfl ps_1 kd_1 rfl rfl (Nat.le_of_ble_eq_true rfl) (fun _ => rfl) h ?_
              intro r3 M4 h
              exact zr_ireturn dX7_takeAheadOfOperand_104 rfl rfl trivial (Nat.le_refl _) (Nat.le_refl _) (And.intro rfl h)
        · have h := h.2.2 hc
          refine zr_aload_n (pc' := 66) (i := 0) dX7_takeAheadOfOperand_65 rfl rfl rfl ?_
          refine zr_iconst (pc' := 67) dX7_takeAheadOfOperand_66 rfl ?_
          refine zr_put (pc' := 70) dX7_takeAheadOfOperand_67 rfl ps_1 kd_1 fl_X7_113 kc_7 rfl nf_1_10 rfl (Or.inl rfl) (fun M5 hM1 => ?_)
          have h := h M5 hM1
          refine zr_aload_n (pc' := 71) (i := 0) dX7_takeAheadOfOperand_70 rfl rfl rfl ?_
          refine zr_bipush (pc' := 73) dX7_takeAheadOfOperand_71 rfl rfl ?_
          refine zn_callV (pc' := 76) (args := [.inl 31]) (st := []) (st' := fun _ => []) dX7_takeAheadOfOperand_73 rfl cv_X7_128 ⟨rfl, rfl, by decide, by decide⟩ rfl ps_1 kd_1 rfl rfl (Nat.le_of_ble_eq_true rfl) (fun _ => rfl) h ?_
          intro r6 M7 h
          refine zr_aload_n (pc' := 77) (i := 0) dX7_takeAheadOfOperand_76 rfl rfl rfl ?_
          refine zr_aload_n (pc' := 78) (i := 1) dX7_takeAheadOfOperand_77 rfl rfl rfl ?_
          refine zn_callV (pc' := 81) (args := [.inr (.inr l1)]) (st := []) (st' := fun r8 => [.inl r8]) dX7_takeAheadOfOperand_78 rfl cv_X7_125 ⟨rfl, rfl, by decide, by decide⟩ rfl ps_1 kd_1 rfl rfl (Nat.le_of_ble_eq_true rfl) (fun _ => rfl) h ?_
          intro r8 M9 h
          exact zr_ireturn dX7_takeAheadOfOperand_81 rfl rfl trivial (Nat.le_refl _) (Nat.le_refl _) (And.intro rfl h)
      · have h := h.2.2 hc
        refine zr_iload_n (pc' := 37) (i := 2) dX7_takeAheadOfOperand_36 rfl rfl rfl ?_
        refine zr_bipush (pc' := 39) dX7_takeAheadOfOperand_37 rfl rfl ?_
        refine zr_icmp_gt (tgt := 59) (pc' := 42) dX7_takeAheadOfOperand_39 rfl rfl h.1 (zRd rfl) (fun hc => ?_) (fun hc => ?_)
        · have h := h.2.1 hc
          refine zr_iload_n (pc' := 60) (i := 2) dX7_takeAheadOfOperand_59 rfl rfl rfl ?_
          refine zr_bipush (pc' := 62) dX7_takeAheadOfOperand_60 rfl rfl ?_
          refine zr_icmp_ne (tgt := 82) (pc' := 65) dX7_takeAheadOfOperand_62 rfl rfl h.1 (zRd rfl) (fun hc => ?_) (fun hc => ?_)
          · have h := h.2.1 hc
            refine zr_iload_n (pc' := 83) (i := 2) dX7_takeAheadOfOperand_82 rfl rfl rfl ?_
            refine zr_iconst (pc' := 84) dX7_takeAheadOfOperand_83 rfl ?_
            refine zr_icmp_ne (tgt := 105) (pc' := 87) dX7_takeAheadOfOperand_84 rfl rfl h.1 (zRd rfl) (fun hc => ?_) (fun hc => ?_)
            · have h := h.2.1 hc
              refine zr_iconst (pc' := 106) dX7_takeAheadOfOperand_105 rfl ?_
              exact zr_ireturn dX7_takeAheadOfOperand_106 rfl rfl trivial (Nat.le_refl _) (Nat.le_refl _) (And.intro rfl h)
            · have h := h.2.2 hc
              refine zr_aload_n (pc' := 88) (i := 0) dX7_takeAheadOfOperand_87 rfl rfl rfl ?_
              refine zr_get (pc' := 91) dX7_takeAheadOfOperand_88 rfl ps_1 kd_1 fl_X7_113 kc_7 (gv_1_10 _) ?_
              refine zr_if_eq (tgt := 105) (pc' := 94) dX7_takeAheadOfOperand_91 rfl rfl h.1 (fun hc => ?_) (fun hc => ?_)
              · have h := h.2.1 hc
                refine zr_iconst (pc' := 106) dX7_takeAheadOfOperand_105 rfl ?_
                exact zr_ireturn dX7_takeAheadOfOperand_106 rfl rfl trivial (Nat.le_refl _) (Nat.le_refl _) (And.intro rfl h)
              · have h := h.2.2 hc
                refine zr_aload_n (pc' := 95) (i := 0) dX7_takeAheadOfOperand_94 rfl rfl rfl ?_
                refine zr_iconst (pc' := 96) dX7_takeAheadOfOperand_95 rfl ?_
                refine zn_callV (pc' := 99) (args := [.inl 4]) (st := []) (st' := fun _ => []) dX7_takeAheadOfOperand_96 rfl cv_X7_128 ⟨rfl, rfl, by decide, by decide⟩ rfl ps_1 kd_1 rfl rfl (Nat.le_of_ble_eq_true rfl) (fun _ => rfl) h ?_
                intro r10 M11 h
                refine zr_aload_n (pc' := 100) (i := 0) dX7_takeAheadOfOperand_99 rfl rfl rfl ?_
                refine zr_aload_n (pc' := 101) (i := 1) dX7_takeAheadOfOperand_100 rfl rfl rfl ?_
                refine zn_callV (pc' := 104) (args := [.inr (.inr l1)]) (st := []) (st' := fun r12 => [.inl r12]) dX7_takeAheadOfOperand_101 rfl cv_X7_125 ⟨rfl, rfl, by decide, by decide⟩ rfl ps_1 kd_1 rfl rfl (Nat.le_of_ble_eq_true rfl) (fun _ => rfl) h ?_
                intro r12 M13 h
                exact zr_ireturn dX7_takeAheadOfOperand_104 rfl rfl trivial (Nat.le_refl _) (Nat.le_refl _) (And.intro rfl h)
          · have h := h.2.2 hc
            refine zr_aload_n (pc' := 66) (i := 0) dX7_takeAheadOfOperand_65 rfl rfl rfl ?_
            refine zr_iconst (pc' := 67) dX7_takeAheadOfOperand_66 rfl ?_
            refine zr_put (pc' := 70) dX7_takeAheadOfOperand_67 rfl ps_1 kd_1 fl_X7_113 kc_7 rfl nf_1_10 rfl (Or.inl rfl) (fun M14 hM1 => ?_)
            have h := h M14 hM1
            refine zr_aload_n (pc' := 71) (i := 0) dX7_takeAheadOfOperand_70 rfl rfl rfl ?_
            refine zr_bipush (pc' := 73) dX7_takeAheadOfOperand_71 rfl rfl ?_
            refine zn_callV (pc' := 76) (args := [.inl 31]) (st := []) (st' := fun _ => []) dX7_takeAheadOfOperand_73 rfl cv_X7_128 ⟨rfl, rfl, by decide, by decide⟩ rfl ps_1 kd_1 rfl rfl (Nat.le_of_ble_eq_true rfl) (fun _ => rfl) h ?_
            intro r15 M16 h
            refine zr_aload_n (pc' := 77) (i := 0) dX7_takeAheadOfOperand_76 rfl rfl rfl ?_
            refine zr_aload_n (pc' := 78) (i := 1) dX7_takeAheadOfOperand_77 rfl rfl rfl ?_
            refine zn_callV (pc' := 81) (args := [.inr (.inr l1)]) (st := []) (st' := fun r17 => [.inl r17]) dX7_takeAheadOfOperand_78 rfl cv_X7_125 ⟨rfl, rfl, by decide, by decide⟩ rfl ps_1 kd_1 rfl rfl (Nat.le_of_ble_eq_true rfl) (fun _ => rfl) h ?_
            intro r17 M18 h
            exact zr_ireturn dX7_takeAheadOfOperand_81 rfl rfl trivial (Nat.le_refl _) (Nat.le_refl _) (And.intro rfl h)
        · have h := h.2.2 hc
          refine zr_aload_n (pc' := 43) (i := 0) dX7_takeAheadOfOperand_42 rfl rfl rfl ?_
          refine zr_iload_n (pc' := 44) (i := 2) dX7_takeAheadOfOperand_43 rfl rfl rfl ?_
          refine zr_put (pc' := 47) dX7_takeAheadOfOperand_44 rfl ps_1 kd_1 fl_X7_122 kc_7 rfl nf_1_11 rfl trivial (fun M19 hM1 => ?_)
          have h := h M19 hM1
          refine zr_aload_n (pc' := 48) (i := 0) dX7_takeAheadOfOperand_47 rfl rfl rfl ?_
          refine zr_bipush (pc' := 50) dX7_takeAheadOfOperand_48 rfl rfl ?_
          refine zr_put (pc' := 53) dX7_takeAheadOfOperand_50 rfl ps_1 kd_1 fl_X7_42 kc_7 rfl nf_1_3 rfl trivial (fun M20 hM1 => ?_)
          have h := h M20 hM1
          refine zr_aload_n (pc' := 54) (i := 0) dX7_takeAheadOfOperand_53 rfl rfl rfl ?_
          refine zr_aload_n (pc' := 55) (i := 1) dX7_takeAheadOfOperand_54 rfl rfl rfl ?_
          refine zn_callV (pc' := 58) (args := [.inr (.inr l1)]) (st := []) (st' := fun r21 => [.inl r21]) dX7_takeAheadOfOperand_55 rfl cv_X7_125 ⟨rfl, rfl, by decide, by decide⟩ rfl ps_1 kd_1 rfl rfl (Nat.le_of_ble_eq_true rfl) (fun _ => rfl) h ?_
          intro r21 M22 h
          exact zr_ireturn dX7_takeAheadOfOperand_58 rfl rfl trivial (Nat.le_refl _) (Nat.le_refl _) (And.intro rfl h)
    · have h := h.2.2 hc
      refine zr_aload_n (pc' := 26) (i := 0) dX7_takeAheadOfOperand_25 rfl rfl rfl ?_
      refine zr_aload_n (pc' := 27) (i := 1) dX7_takeAheadOfOperand_26 rfl rfl rfl ?_
      refine zn_callV (pc' := 30) (args := [.inr (.inr l1)]) (st := []) (st' := fun r23 => [.inl r23]) dX7_takeAheadOfOperand_27 rfl cv_X7_119 ⟨rfl, rfl, by decide, by decide⟩ rfl ps_1 kd_1 rfl rfl (Nat.le_of_ble_eq_true rfl) (fun _ => rfl) h ?_
      intro r23 M24 h
      exact zr_ireturn dX7_takeAheadOfOperand_30 rfl rfl trivial (Nat.le_refl _) (Nat.le_refl _) (And.intro rfl h)
  · have h := h.2.2 hc
    refine zr_aload_n (pc' := 15) (i := 0) dX7_takeAheadOfOperand_14 rfl rfl rfl ?_
    refine zn_callV (pc' := 18) (args := []) (st := []) (st' := fun r25 => [.inl r25]) dX7_takeAheadOfOperand_15 rfl cv_X7_116 ⟨rfl, rfl, by decide, by decide⟩ rfl ps_1 kd_1 rfl rfl (Nat.le_of_ble_eq_true rfl) (fun _ => rfl) h ?_
    intro r25 M26 h
    exact zr_ireturn dX7_takeAheadOfOperand_18 rfl rfl trivial (Nat.le_refl _) (Nat.le_refl _) (And.intro rfl h)
set_option maxRecDepth 20000 in
theorem vcX7_takeOpen {E : zE} {M : zM} {Q : Int → zM → Prop}
    (h : ((zR (M 1 8)) ∧ (((M 1 8) < 8 → (∀ M1, M1 = zup M 1 8 ((M 1 8) + 1) → (0 ≤ M1 1 8 ∧ M1 1 8 < 9) ∧ (∀ M2, M2 = zup M1 5 ((M1 1 8).toNat) 0 → (∀ M3, M3 = zup M2 1 10 1 → (zP E mX7_await [.inr (.inr 1), .inl 18] M3 (fun r4 M5 => Q 0 M5)))))) ∧ (8 ≤ (M 1 8) → Q 2 M))))
    : zP E mX7_takeOpen [.inr (.inr 1)] M Q := by
  refine zP_of (by decide +kernel) rfl (Nat.le_of_ble_eq_true rfl) ?_
  show zA E zNN (0, 0) mX7_takeOpen 0 [(0, .inr (.inr 1))] [] M (zQ Q)
  refine zr_aload_n (pc' := 1) (i := 0) dX7_takeOpen_0 rfl rfl rfl ?_
  refine zr_get (pc' := 4) dX7_takeOpen_1 rfl ps_1 kd_1 fl_X7_110 kc_7 (gv_1_8 _) ?_
  refine zr_bipush (pc' := 6) dX7_takeOpen_4 rfl rfl ?_
  refine zr_icmp_lt (tgt := 11) (pc' := 9) dX7_takeOpen_6 rfl rfl h.1 (zRd rfl) (fun hc => ?_) (fun hc => ?_)
  · have h := h.2.1 hc
    refine zr_aload_n (pc' := 12) (i := 0) dX7_takeOpen_11 rfl rfl rfl ?_
    refine zr_dup (pc' := 13) dX7_takeOpen_12 rfl rfl ?_
    refine zr_get (pc' := 16) dX7_takeOpen_13 rfl ps_1 kd_1 fl_X7_110 kc_7 (gv_1_8 _) ?_
    refine zr_iconst (pc' := 17) dX7_takeOpen_16 rfl ?_
    refine zr_iadd (pc' := 18) dX7_takeOpen_17 rfl ?_
    refine zr_put (pc' := 21) dX7_takeOpen_18 rfl ps_1 kd_1 fl_X7_110 kc_7 rfl nf_1_8 rfl trivial (fun M1 hM1 => ?_)
    have h := h M1 hM1
    refine zr_aload_n (pc' := 22) (i := 0) dX7_takeOpen_21 rfl rfl rfl ?_
    refine zr_get (pc' := 25) dX7_takeOpen_22 rfl ps_1 kd_1 fl_X7_28 kc_7 (gv_1_9 _) ?_
    refine zr_aload_n (pc' := 26) (i := 0) dX7_takeOpen_25 rfl rfl rfl ?_
    refine zr_get (pc' := 29) dX7_takeOpen_26 rfl ps_1 kd_1 fl_X7_110 kc_7 (gv_1_8 _) ?_
    refine zr_iconst (pc' := 30) dX7_takeOpen_29 rfl ?_
    refine zr_zast (pc' := 31) dX7_takeOpen_30 rfl ps_5 kd_5 (by decide) h.1.1 h.1.2 (Or.inl rfl) (fun M2 hM1 => ?_)
    have h := h.2 M2 hM1
    refine zr_aload_n (pc' := 32) (i := 0) dX7_takeOpen_31 rfl rfl rfl ?_
    refine zr_iconst (pc' := 33) dX7_takeOpen_32 rfl ?_
    refine zr_put (pc' := 36) dX7_takeOpen_33 rfl ps_1 kd_1 fl_X7_113 kc_7 rfl nf_1_10 rfl (Or.inr rfl) (fun M3 hM1 => ?_)
    have h := h M3 hM1
    refine zr_aload_n (pc' := 37) (i := 0) dX7_takeOpen_36 rfl rfl rfl ?_
    refine zr_bipush (pc' := 39) dX7_takeOpen_37 rfl rfl ?_
    refine zn_callV (pc' := 42) (args := [.inl 18]) (st := []) (st' := fun _ => []) dX7_takeOpen_39 rfl cv_X7_128 ⟨rfl, rfl, by decide, by decide⟩ rfl ps_1 kd_1 rfl rfl (Nat.le_of_ble_eq_true rfl) (fun _ => rfl) h ?_
    intro r4 M5 h
    refine zr_iconst (pc' := 43) dX7_takeOpen_42 rfl ?_
    exact zr_ireturn dX7_takeOpen_43 rfl rfl trivial (Nat.le_refl _) (Nat.le_refl _) (And.intro rfl h)
  · have h := h.2.2 hc
    refine zr_iconst (pc' := 10) dX7_takeOpen_9 rfl ?_
    exact zr_ireturn dX7_takeOpen_10 rfl rfl trivial (Nat.le_refl _) (Nat.le_refl _) (And.intro rfl h)
set_option maxRecDepth 20000 in
theorem vcX7_takePlainNumber {E : zE} {M : zM} {Q : Int → zM → Prop} (l1 : Int) (hi1 : zIs_6 l1)
    (h : (zP E mX6_write [.inr (.inr l1), .inl 16, .inl 0, .inl (M 2 6)] M (fun r1 M2 => (∀ M3, M3 = zup M2 1 3 5 → ((zR (M3 2 6)) ∧ (((M3 2 6) ≤ 99999 → (zP E mX7_countKnot [.inr (.inr 1), .inr (.inr l1)] M3 (fun r4 M5 => Q r4 M5))) ∧ (99999 < (M3 2 6) → Q 2 M3)))))))
    : zP E mX7_takePlainNumber [.inr (.inr 1), .inr (.inr l1)] M Q := by
  refine zP_of (by decide +kernel) rfl (Nat.le_of_ble_eq_true rfl) ?_
  show zA E zNN (0, 0) mX7_takePlainNumber 0 [(0, .inr (.inr 1)), (1, .inr (.inr l1))] [] M (zQ Q)
  refine zr_aload_n (pc' := 1) (i := 1) dX7_takePlainNumber_0 rfl rfl rfl ?_
  refine zr_bipush (pc' := 3) dX7_takePlainNumber_1 rfl rfl ?_
  refine zr_iconst (pc' := 4) dX7_takePlainNumber_3 rfl ?_
  refine zr_aload_n (pc' := 5) (i := 0) dX7_takePlainNumber_4 rfl rfl rfl ?_
  refine zr_get (pc' := 8) dX7_takePlainNumber_5 rfl ps_1 kd_1 fl_X7_12 kc_7 (gv_1_0 _) ?_
  refine zr_get (pc' := 11) dX7_takePlainNumber_8 rfl ps_2 kd_2 fl_X7_90 kc_9 (gv_2_6 _) ?_
  refine zn_callV (pc' := 14) (args := [.inl 16, .inl 0, .inl (M 2 6)]) (st := []) (st' := fun _ => []) dX7_takePlainNumber_11 rfl cv_X7_131 ⟨rfl, rfl, by decide, by decide⟩ rfl (is_6_pos hi1) (is_6_kd hi1) rfl rfl (Nat.le_of_ble_eq_true rfl) (fun _ => rfl) h ?_
  intro r1 M2 h
  refine zr_aload_n (pc' := 15) (i := 0) dX7_takePlainNumber_14 rfl rfl rfl ?_
  refine zr_iconst (pc' := 16) dX7_takePlainNumber_15 rfl ?_
  refine zr_put (pc' := 19) dX7_takePlainNumber_16 rfl ps_1 kd_1 fl_X7_42 kc_7 rfl nf_1_3 rfl trivial (fun M3 hM1 => ?_)
  have h := h M3 hM1
  refine zr_aload_n (pc' := 20) (i := 0) dX7_takePlainNumber_19 rfl rfl rfl ?_
  refine zr_get (pc' := 23) dX7_takePlainNumber_20 rfl ps_1 kd_1 fl_X7_12 kc_7 (gv_1_0 _) ?_
  refine zr_get (pc' := 26) dX7_takePlainNumber_23 rfl ps_2 kd_2 fl_X7_90 kc_9 (gv_2_6 _) ?_
  refine zr_ldc (pc' := 28) (x := 99999) dX7_takePlainNumber_26 rfl ci_X7_135 ?_
  refine zr_icmp_le (tgt := 35) (pc' := 31) dX7_takePlainNumber_28 rfl rfl h.1 (zRd rfl) (fun hc => ?_) (fun hc => ?_)
  · have h := h.2.1 hc
    refine zr_aload_n (pc' := 36) (i := 0) dX7_takePlainNumber_35 rfl rfl rfl ?_
    refine zr_aload_n (pc' := 37) (i := 1) dX7_takePlainNumber_36 rfl rfl rfl ?_
    refine zn_callV (pc' := 40) (args := [.inr (.inr l1)]) (st := []) (st' := fun r4 => [.inl r4]) dX7_takePlainNumber_37 rfl cv_X7_125 ⟨rfl, rfl, by decide, by decide⟩ rfl ps_1 kd_1 rfl rfl (Nat.le_of_ble_eq_true rfl) (fun _ => rfl) h ?_
    intro r4 M5 h
    exact zr_ireturn dX7_takePlainNumber_40 rfl rfl trivial (Nat.le_refl _) (Nat.le_refl _) (And.intro rfl h)
  · have h := h.2.2 hc
    refine zr_iconst (pc' := 32) dX7_takePlainNumber_31 rfl ?_
    refine zr_goto (pc' := 40) dX7_takePlainNumber_32 rfl ?_
    exact zr_ireturn dX7_takePlainNumber_40 rfl rfl trivial (Nat.le_refl _) (Nat.le_refl _) (And.intro rfl h)
set_option maxRecDepth 20000 in
theorem vcX7_takeOfWindow {E : zE} {M : zM} {Q : Int → zM → Prop} (l1 : Int) (hi1 : zIs_6 l1)
    (h : (zR (M 1 3) ∧ (((M 1 3) < 6 ∨ 9 < (M 1 3)) → (∀ M1, M1 = zup M 1 3 5 → ((zR (M 2 4)) ∧ ((¬ (M 2 4) = 19 → Q 1 M1) ∧ ((M 2 4) = 19 → Q 0 M1))))) ∧ ((M 1 3) = 6 → (∀ M2, M2 = zup M 1 3 7 → ((zR (M 2 4)) ∧ (((M 2 4) = 18 → ((zR (M2 1 8)) ∧ (((M2 1 8) < 8 → Q 0 M2) ∧ (8 ≤ (M2 1 8) → Q 2 M2)))) ∧ (¬ (M 2 4) = 18 → Q 1 M2))))) ∧ ((M 1 3) = 7 → (∀ M3, M3 = zup M 1 3 8 → (∀ M4, M4 = zup M3 1 12 ((M 2 4) - 12) → (zP E mX11_within [.inl (M 2 4), .inl 12, .inl 15] M4 (fun r5 M6 => ((zR r5) ∧ ((r5 = 0 → Q 1 M6) ∧ (¬ r5 = 0 → Q 0 M6)))))))) ∧ ((M 1 3) = 8 → (∀ M7, M7 = zup M 1 3 9 → ((zR (M 2 4)) ∧ ((¬ (M 2 4) = 20 → Q 1 M7) ∧ ((M 2 4) = 20 → Q 0 M7))))) ∧ ((M 1 3) = 9 → (∀ M8, M8 = zup M 1 3 10 → (zP E mX6_write [.inr (.inr l1), .inl (M8 1 11), .inl (M8 1 12), .inl (M8 2 6)] M8 (fun r9 M10 => (zP E mX7_judgeNumber [.inr (.inr 1), .inl 1, .inl 48] M10 (fun r11 M12 => Q r11 M12))))))))
    : zP E mX7_takeOfWindow [.inr (.inr 1), .inr (.inr l1)] M Q := by
  refine zP_of (by decide +kernel) rfl (Nat.le_of_ble_eq_true rfl) ?_
  show zA E zNN (0, 0) mX7_takeOfWindow 0 [(0, .inr (.inr 1)), (1, .inr (.inr l1))] [] M (zQ Q)
  refine zr_aload_n (pc' := 1) (i := 0) dX7_takeOfWindow_0 rfl rfl rfl ?_
  refine zr_get (pc' := 4) dX7_takeOfWindow_1 rfl ps_1 kd_1 fl_X7_12 kc_7 (gv_1_0 _) ?_
  refine zr_get (pc' := 7) dX7_takeOfWindow_4 rfl ps_2 kd_2 fl_X7_51 kc_9 (gv_2_4 _) ?_
  refine zr_istore_n (pc' := 8) (i := 2) (al' := [(2, .inl (M 2 4)), (0, .inr (.inr 1)), (1, .inr (.inr l1))]) dX7_takeOfWindow_7 rfl rfl (by decide) rfl ?_
  refine zr_aload_n (pc' := 9) (i := 0) dX7_takeOfWindow_8 rfl rfl rfl ?_
  refine zr_get (pc' := 12) dX7_takeOfWindow_9 rfl ps_1 kd_1 fl_X7_42 kc_7 (gv_1_3 _) ?_
  by_cases hsw : (M 1 3) < 6 ∨ 9 < (M 1 3)
  · refine zr_tableOut (tgt := 157) dX7_takeOfWindow_12 h.1 hsw rfl ?_
    have h := h.2.1 hsw
    refine zr_aload_n (pc' := 158) (i := 0) dX7_takeOfWindow_157 rfl rfl rfl ?_
    refine zr_iconst (pc' := 159) dX7_takeOfWindow_158 rfl ?_
    refine zr_put (pc' := 162) dX7_takeOfWindow_159 rfl ps_1 kd_1 fl_X7_42 kc_7 rfl nf_1_3 rfl trivial (fun M1 hM1 => ?_)
    have h := h M1 hM1
    refine zr_iload_n (pc' := 163) (i := 2) dX7_takeOfWindow_162 rfl rfl rfl ?_
    refine zr_bipush (pc' := 165) dX7_takeOfWindow_163 rfl rfl ?_
    refine zr_icmp_ne (tgt := 172) (pc' := 168) dX7_takeOfWindow_165 rfl rfl h.1 (zRd rfl) (fun hc => ?_) (fun hc => ?_)
    · have h := h.2.1 hc
      refine zr_iconst (pc' := 173) dX7_takeOfWindow_172 rfl ?_
      exact zr_ireturn dX7_takeOfWindow_173 rfl rfl trivial (Nat.le_refl _) (Nat.le_refl _) (And.intro rfl h)
    · have h := h.2.2 hc
      refine zr_iconst (pc' := 169) dX7_takeOfWindow_168 rfl ?_
      refine zr_goto (pc' := 173) dX7_takeOfWindow_169 rfl ?_
      exact zr_ireturn dX7_takeOfWindow_173 rfl rfl trivial (Nat.le_refl _) (Nat.le_refl _) (And.intro rfl h)
  · have hsx : (M 1 3) = 6 ∨ (M 1 3) = 7 ∨ (M 1 3) = 8 ∨ (M 1 3) = 9 := by omega
    rcases hsx with hsx | hsx | hsx | hsx
    · refine zr_tableIn (off := 32) (tgt := 44) dX7_takeOfWindow_12 h.1 (by omega) (by omega) (by rw [hsx]; rfl) rfl ?_
      have h := h.2.2.1 hsx
      refine zr_aload_n (pc' := 45) (i := 0) dX7_takeOfWindow_44 rfl rfl rfl ?_
      refine zr_bipush (pc' := 47) dX7_takeOfWindow_45 rfl rfl ?_
      refine zr_put (pc' := 50) dX7_takeOfWindow_47 rfl ps_1 kd_1 fl_X7_42 kc_7 rfl nf_1_3 rfl trivial (fun M2 hM1 => ?_)
      have h := h M2 hM1
      refine zr_iload_n (pc' := 51) (i := 2) dX7_takeOfWindow_50 rfl rfl rfl ?_
      refine zr_bipush (pc' := 53) dX7_takeOfWindow_51 rfl rfl ?_
      refine zr_icmp_eq (tgt := 60) (pc' := 56) dX7_takeOfWindow_53 rfl rfl h.1 (zRd rfl) (fun hc => ?_) (fun hc => ?_)
      · have h := h.2.1 hc
        refine zr_aload_n (pc' := 61) (i := 0) dX7_takeOfWindow_60 rfl rfl rfl ?_
        refine zr_get (pc' := 64) dX7_takeOfWindow_61 rfl ps_1 kd_1 fl_X7_110 kc_7 (gv_1_8 _) ?_
        refine zr_bipush (pc' := 66) dX7_takeOfWindow_64 rfl rfl ?_
        refine zr_icmp_lt (tgt := 73) (pc' := 69) dX7_takeOfWindow_66 rfl rfl h.1 (zRd rfl) (fun hc => ?_) (fun hc => ?_)
        · have h := h.2.1 hc
          refine zr_iconst (pc' := 74) dX7_takeOfWindow_73 rfl ?_
          exact zr_ireturn dX7_takeOfWindow_74 rfl rfl trivial (Nat.le_refl _) (Nat.le_refl _) (And.intro rfl h)
        · have h := h.2.2 hc
          refine zr_iconst (pc' := 70) dX7_takeOfWindow_69 rfl ?_
          refine zr_goto (pc' := 74) dX7_takeOfWindow_70 rfl ?_
          exact zr_ireturn dX7_takeOfWindow_74 rfl rfl trivial (Nat.le_refl _) (Nat.le_refl _) (And.intro rfl h)
      · have h := h.2.2 hc
        refine zr_iconst (pc' := 57) dX7_takeOfWindow_56 rfl ?_
        refine zr_goto (pc' := 74) dX7_takeOfWindow_57 rfl ?_
        exact zr_ireturn dX7_takeOfWindow_74 rfl rfl trivial (Nat.le_refl _) (Nat.le_refl _) (And.intro rfl h)
    · refine zr_tableIn (off := 63) (tgt := 75) dX7_takeOfWindow_12 h.1 (by omega) (by omega) (by rw [hsx]; rfl) rfl ?_
      have h := h.2.2.2.1 hsx
      refine zr_aload_n (pc' := 76) (i := 0) dX7_takeOfWindow_75 rfl rfl rfl ?_
      refine zr_bipush (pc' := 78) dX7_takeOfWindow_76 rfl rfl ?_
      refine zr_put (pc' := 81) dX7_takeOfWindow_78 rfl ps_1 kd_1 fl_X7_42 kc_7 rfl nf_1_3 rfl trivial (fun M3 hM1 => ?_)
      have h := h M3 hM1
      refine zr_aload_n (pc' := 82) (i := 0) dX7_takeOfWindow_81 rfl rfl rfl ?_
      refine zr_iload_n (pc' := 83) (i := 2) dX7_takeOfWindow_82 rfl rfl rfl ?_
      refine zr_bipush (pc' := 85) dX7_takeOfWindow_83 rfl rfl ?_
      refine zr_isub (pc' := 86) dX7_takeOfWindow_85 rfl ?_
      refine zr_put (pc' := 89) dX7_takeOfWindow_86 rfl ps_1 kd_1 fl_X7_136 kc_7 rfl nf_1_12 rfl trivial (fun M4 hM1 => ?_)
      have h := h M4 hM1
      refine zr_iload_n (pc' := 90) (i := 2) dX7_takeOfWindow_89 rfl rfl rfl ?_
      refine zr_bipush (pc' := 92) dX7_takeOfWindow_90 rfl rfl ?_
      refine zr_bipush (pc' := 94) dX7_takeOfWindow_92 rfl rfl ?_
      refine zn_callSN (pc' := 97) (args := [.inl (M 2 4), .inl 12, .inl 15]) (st := []) (st' := fun r5 => [.inl r5]) dX7_takeOfWindow_94 rfl cs_X7_93 ⟨rfl, rfl, by decide, by decide⟩ rfl rfl rfl (Nat.le_of_ble_eq_true rfl) (fun _ => rfl) h ?_
      intro r5 M6 h
      refine zr_if_eq (tgt := 104) (pc' := 100) dX7_takeOfWindow_97 rfl rfl h.1 (fun hc => ?_) (fun hc => ?_)
      · have h := h.2.1 hc
        refine zr_iconst (pc' := 105) dX7_takeOfWindow_104 rfl ?_
        exact zr_ireturn dX7_takeOfWindow_105 rfl rfl trivial (Nat.le_refl _) (Nat.le_refl _) (And.intro rfl h)
      · have h := h.2.2 hc
        refine zr_iconst (pc' := 101) dX7_takeOfWindow_100 rfl ?_
        refine zr_goto (pc' := 105) dX7_takeOfWindow_101 rfl ?_
        exact zr_ireturn dX7_takeOfWindow_105 rfl rfl trivial (Nat.le_refl _) (Nat.le_refl _) (And.intro rfl h)
    · refine zr_tableIn (off := 94) (tgt := 106) dX7_takeOfWindow_12 h.1 (by omega) (by omega) (by rw [hsx]; rfl) rfl ?_
      have h := h.2.2.2.2.1 hsx
      refine zr_aload_n (pc' := 107) (i := 0) dX7_takeOfWindow_106 rfl rfl rfl ?_
      refine zr_bipush (pc' := 109) dX7_takeOfWindow_107 rfl rfl ?_
      refine zr_put (pc' := 112) dX7_takeOfWindow_109 rfl ps_1 kd_1 fl_X7_42 kc_7 rfl nf_1_3 rfl trivial (fun M7 hM1 => ?_)
      have h := h M7 hM1
      refine zr_iload_n (pc' := 113) (i := 2) dX7_takeOfWindow_112 rfl rfl rfl ?_
      refine zr_bipush (pc' := 115) dX7_takeOfWindow_113 rfl rfl ?_
      refine zr_icmp_ne (tgt := 122) (pc' := 118) dX7_takeOfWindow_115 rfl rfl h.1 (zRd rfl) (fun hc => ?_) (fun hc => ?_)
      · have h := h.2.1 hc
        refine zr_iconst (pc' := 123) dX7_takeOfWindow_122 rfl ?_
        exact zr_ireturn dX7_takeOfWindow_123 rfl rfl trivial (Nat.le_refl _) (Nat.le_refl _) (And.intro rfl h)
      · have h := h.2.2 hc
        refine zr_iconst (pc' := 119) dX7_takeOfWindow_118 rfl ?_
        refine zr_goto (pc' := 123) dX7_takeOfWindow_119 rfl ?_
        exact zr_ireturn dX7_takeOfWindow_123 rfl rfl trivial (Nat.le_refl _) (Nat.le_refl _) (And.intro rfl h)
    · refine zr_tableIn (off := 112) (tgt := 124) dX7_takeOfWindow_12 h.1 (by omega) (by omega) (by rw [hsx]; rfl) rfl ?_
      have h := h.2.2.2.2.2 hsx
      refine zr_aload_n (pc' := 125) (i := 0) dX7_takeOfWindow_124 rfl rfl rfl ?_
      refine zr_bipush (pc' := 127) dX7_takeOfWindow_125 rfl rfl ?_
      refine zr_put (pc' := 130) dX7_takeOfWindow_127 rfl ps_1 kd_1 fl_X7_42 kc_7 rfl nf_1_3 rfl trivial (fun M8 hM1 => ?_)
      have h := h M8 hM1
      refine zr_aload_n (pc' := 131) (i := 1) dX7_takeOfWindow_130 rfl rfl rfl ?_
      refine zr_aload_n (pc' := 132) (i := 0) dX7_takeOfWindow_131 rfl rfl rfl ?_
      refine zr_get (pc' := 135) dX7_takeOfWindow_132 rfl ps_1 kd_1 fl_X7_122 kc_7 (gv_1_11 _) ?_
      refine zr_aload_n (pc' := 136) (i := 0) dX7_takeOfWindow_135 rfl rfl rfl ?_
      refine zr_get (pc' := 139) dX7_takeOfWindow_136 rfl ps_1 kd_1 fl_X7_136 kc_7 (gv_1_12 _) ?_
      refine zr_aload_n (pc' := 140) (i := 0) dX7_takeOfWindow_139 rfl rfl rfl ?_
      refine zr_get (pc' := 143) dX7_takeOfWindow_140 rfl ps_1 kd_1 fl_X7_12 kc_7 (gv_1_0 _) ?_
      refine zr_get (pc' := 146) dX7_takeOfWindow_143 rfl ps_2 kd_2 fl_X7_90 kc_9 (gv_2_6 _) ?_
      refine zn_callV (pc' := 149) (args := [.inl (M8 1 11), .inl (M8 1 12), .inl (M8 2 6)]) (st := []) (st' := fun _ => []) dX7_takeOfWindow_146 rfl cv_X7_131 ⟨rfl, rfl, by decide, by decide⟩ rfl (is_6_pos hi1) (is_6_kd hi1) rfl rfl (Nat.le_of_ble_eq_true rfl) (fun _ => rfl) h ?_
      intro r9 M10 h
      refine zr_aload_n (pc' := 150) (i := 0) dX7_takeOfWindow_149 rfl rfl rfl ?_
      refine zr_iconst (pc' := 151) dX7_takeOfWindow_150 rfl ?_
      refine zr_bipush (pc' := 153) dX7_takeOfWindow_151 rfl rfl ?_
      refine zn_callV (pc' := 156) (args := [.inl 1, .inl 48]) (st := []) (st' := fun r11 => [.inl r11]) dX7_takeOfWindow_153 rfl cv_X7_100 ⟨rfl, rfl, by decide, by decide⟩ rfl ps_1 kd_1 rfl rfl (Nat.le_of_ble_eq_true rfl) (fun _ => rfl) h ?_
      intro r11 M12 h
      exact zr_ireturn dX7_takeOfWindow_156 rfl rfl trivial (Nat.le_refl _) (Nat.le_refl _) (And.intro rfl h)
set_option maxRecDepth 20000 in
theorem vcX7_takeBehindOperand {E : zE} {M : zM} {Q : Int → zM → Prop} (l1 : Int) (hi1 : zIs_6 l1)
    (h : ((zR (M 2 4)) ∧ ((¬ (M 2 4) = 17 → ((zR (M 2 4)) ∧ ((¬ (M 2 4) = 19 → (zP E mX7_takeSign [.inr (.inr 1), .inr (.inr l1)] M (fun r1 M2 => Q r1 M2))) ∧ ((M 2 4) = 19 → ((zR (M 1 8)) ∧ (((M 1 8) ≤ 0 → (zP E mX7_takeSign [.inr (.inr 1), .inr (.inr l1)] M (fun r3 M4 => Q r3 M4))) ∧ (0 < (M 1 8) → (zP E mX7_settle [.inr (.inr 1), .inr (.inr l1), .inl 1] M (fun r5 M6 => (∀ M7, M7 = zup M6 1 7 ((M6 1 7) - 1) → (∀ M8, M8 = zup M7 1 8 ((M7 1 8) - 1) → Q 0 M8))))))))))) ∧ ((M 2 4) = 17 → ((zR (M 1 8)) ∧ ((¬ (M 1 8) = 0 → ((zR (M 2 4)) ∧ ((¬ (M 2 4) = 19 → (zP E mX7_takeSign [.inr (.inr 1), .inr (.inr l1)] M (fun r9 M10 => Q r9 M10))) ∧ ((M 2 4) = 19 → ((zR (M 1 8)) ∧ (((M 1 8) ≤ 0 → (zP E mX7_takeSign [.inr (.inr 1), .inr (.inr l1)] M (fun r11 M12 => Q r11 M12))) ∧ (0 < (M 1 8) → (zP E mX7_settle [.inr (.inr 1), .inr (.inr l1), .inl 1] M (fun r13 M14 => (∀ M15, M15 = zup M14 1 7 ((M14 1 7) - 1) → (∀ M16, M16 = zup M15 1 8 ((M15 1 8) - 1) → Q 0 M16))))))))))) ∧ ((M 1 8) = 0 → (zP E mX7_settle [.inr (.inr 1), .inr (.inr l1), .inl 1] M (fun r17 M18 => (zP E mX6_endLine [.inr (.inr l1), .inl (M18 1 5)] M18 (fun r19 M20 => (∀ M21, M21 = zup M20 1 4 ((M20 1 4) + 1) → (∀ M22, M22 = zup M21 1 3 0 → Q 0 M22)))))))))))))
    : zP E mX7_takeBehindOperand [.inr (.inr 1), .inr (.inr l1)] M Q := by
  refine zP_of (by decide +kernel) rfl (Nat.le_of_ble_eq_true rfl) ?_
  show zA E zNN (0, 0) mX7_takeBehindOperand 0 [(0, .inr (.inr 1)), (1, .inr (.inr l1))] [] M (zQ Q)
  refine zr_aload_n (pc' := 1) (i := 0) dX7_takeBehindOperand_0 rfl rfl rfl ?_
  refine zr_get (pc' := 4) dX7_takeBehindOperand_1 rfl ps_1 kd_1 fl_X7_12 kc_7 (gv_1_0 _) ?_
  refine zr_get (pc' := 7) dX7_takeBehindOperand_4 rfl ps_2 kd_2 fl_X7_51 kc_9 (gv_2_4 _) ?_
  refine zr_istore_n (pc' := 8) (i := 2) (al' := [(2, .inl (M 2 4)), (0, .inr (.inr 1)), (1, .inr (.inr l1))]) dX7_takeBehindOperand_7 rfl rfl (by decide) rfl ?_
  refine zr_iload_n (pc' := 9) (i := 2) dX7_takeBehindOperand_8 rfl rfl rfl ?_
  refine zr_bipush (pc' := 11) dX7_takeBehindOperand_9 rfl rfl ?_
  refine zr_icmp_ne (tgt := 52) (pc' := 14) dX7_takeBehindOperand_11 rfl rfl h.1 (zRd rfl) (fun hc => ?_) (fun hc => ?_)
  · have h := h.2.1 hc
    refine zr_iload_n (pc' := 53) (i := 2) dX7_takeBehindOperand_52 rfl rfl rfl ?_
    refine zr_bipush (pc' := 55) dX7_takeBehindOperand_53 rfl rfl ?_
    refine zr_icmp_ne (tgt := 93) (pc' := 58) dX7_takeBehindOperand_55 rfl rfl h.1 (zRd rfl) (fun hc => ?_) (fun hc => ?_)
    · have h := h.2.1 hc
      refine zr_aload_n (pc' := 94) (i := 0) dX7_takeBehindOperand_93 rfl rfl rfl ?_
      refine zr_aload_n (pc' := 95) (i := 1) dX7_takeBehindOperand_94 rfl rfl rfl ?_
      refine zn_callV (pc' := 98) (args := [.inr (.inr l1)]) (st := []) (st' := fun r1 => [.inl r1]) dX7_takeBehindOperand_95 rfl cv_X7_146 ⟨rfl, rfl, by decide, by decide⟩ rfl ps_1 kd_1 rfl rfl (Nat.le_of_ble_eq_true rfl) (fun _ => rfl) h ?_
      intro r1 M2 h
      exact zr_ireturn dX7_takeBehindOperand_98 rfl rfl trivial (Nat.le_refl _) (Nat.le_refl _) (And.intro rfl h)
    · have h := h.2.2 hc
      refine zr_aload_n (pc' := 59) (i := 0) dX7_takeBehindOperand_58 rfl rfl rfl ?_
      refine zr_get (pc' := 62) dX7_takeBehindOperand_59 rfl ps_1 kd_1 fl_X7_110 kc_7 (gv_1_8 _) ?_
      refine zr_if_le (tgt := 93) (pc' := 65) dX7_takeBehindOperand_62 rfl rfl h.1 (fun hc => ?_) (fun hc => ?_)
      · have h := h.2.1 hc
        refine zr_aload_n (pc' := 94) (i := 0) dX7_takeBehindOperand_93 rfl rfl rfl ?_
        refine zr_aload_n (pc' := 95) (i := 1) dX7_takeBehindOperand_94 rfl rfl rfl ?_
        refine zn_callV (pc' := 98) (args := [.inr (.inr l1)]) (st := []) (st' := fun r3 => [.inl r3]) dX7_takeBehindOperand_95 rfl cv_X7_146 ⟨rfl, rfl, by decide, by decide⟩ rfl ps_1 kd_1 rfl rfl (Nat.le_of_ble_eq_true rfl) (fun _ => rfl) h ?_
        intro r3 M4 h
        exact zr_ireturn dX7_takeBehindOperand_98 rfl rfl trivial (Nat.le_refl _) (Nat.le_refl _) (And.intro rfl h)
      · have h := h.2.2 hc
        refine zr_aload_n (pc' := 66) (i := 0) dX7_takeBehindOperand_65 rfl rfl rfl ?_
        refine zr_aload_n (pc' := 67) (i := 1) dX7_takeBehindOperand_66 rfl rfl rfl ?_
        refine zr_iconst (pc' := 68) dX7_takeBehindOperand_67 rfl ?_
        refine zn_callV (pc' := 71) (args := [.inr (.inr l1), .inl 1]) (st := []) (st' := fun _ => []) dX7_takeBehindOperand_68 rfl cv_X7_139 ⟨rfl, rfl, by decide, by decide⟩ rfl ps_1 kd_1 rfl rfl (Nat.le_of_ble_eq_true rfl) (fun _ => rfl) h ?_
        intro r5 M6 h
        refine zr_aload_n (pc' := 72) (i := 0) dX7_takeBehindOperand_71 rfl rfl rfl ?_
        refine zr_dup (pc' := 73) dX7_takeBehindOperand_72 rfl rfl ?_
        refine zr_get (pc' := 76) dX7_takeBehindOperand_73 rfl ps_1 kd_1 fl_X7_107 kc_7 (gv_1_7 _) ?_
        refine zr_iconst (pc' := 77) dX7_takeBehindOperand_76 rfl ?_
        refine zr_isub (pc' := 78) dX7_takeBehindOperand_77 rfl ?_
        refine zr_put (pc' := 81) dX7_takeBehindOperand_78 rfl ps_1 kd_1 fl_X7_107 kc_7 rfl nf_1_7 rfl trivial (fun M7 hM1 => ?_)
        have h := h M7 hM1
        refine zr_aload_n (pc' := 82) (i := 0) dX7_takeBehindOperand_81 rfl rfl rfl ?_
        refine zr_dup (pc' := 83) dX7_takeBehindOperand_82 rfl rfl ?_
        refine zr_get (pc' := 86) dX7_takeBehindOperand_83 rfl ps_1 kd_1 fl_X7_110 kc_7 (gv_1_8 _) ?_
        refine zr_iconst (pc' := 87) dX7_takeBehindOperand_86 rfl ?_
        refine zr_isub (pc' := 88) dX7_takeBehindOperand_87 rfl ?_
        refine zr_put (pc' := 91) dX7_takeBehindOperand_88 rfl ps_1 kd_1 fl_X7_110 kc_7 rfl nf_1_8 rfl trivial (fun M8 hM1 => ?_)
        have h := h M8 hM1
        refine zr_iconst (pc' := 92) dX7_takeBehindOperand_91 rfl ?_
        exact zr_ireturn dX7_takeBehindOperand_92 rfl rfl trivial (Nat.le_refl _) (Nat.le_refl _) (And.intro rfl h)
  · have h := h.2.2 hc
    refine zr_aload_n (pc' := 15) (i := 0) dX7_takeBehindOperand_14 rfl rfl rfl ?_
    refine zr_get (pc' := 18) dX7_takeBehindOperand_15 rfl ps_1 kd_1 fl_X7_110 kc_7 (gv_1_8 _) ?_
    refine zr_if_ne (tgt := 52) (pc' := 21) dX7_takeBehindOperand_18 rfl rfl h.1 (fun hc => ?_) (fun hc => ?_)
    · have h := h.2.1 hc
      refine zr_iload_n (pc' := 53) (i := 2) dX7_takeBehindOperand_52 rfl rfl rfl ?_
      refine zr_bipush (pc' := 55) dX7_takeBehindOperand_53 rfl rfl ?_
      refine zr_icmp_ne (tgt := 93) (pc' := 58) dX7_takeBehindOperand_55 rfl rfl h.1 (zRd rfl) (fun hc => ?_) (fun hc => ?_)
      · have h := h.2.1 hc
        refine zr_aload_n (pc' := 94) (i := 0) dX7_takeBehindOperand_93 rfl rfl rfl ?_
        refine zr_aload_n (pc' := 95) (i := 1) dX7_takeBehindOperand_94 rfl rfl rfl ?_
        refine zn_callV (pc' := 98) (args := [.inr (.inr l1)]) (st := []) (st' := fun r9 => [.inl r9]) dX7_takeBehindOperand_95 rfl cv_X7_146 ⟨rfl, rfl, by decide, by decide⟩ rfl ps_1 kd_1 rfl rfl (Nat.le_of_ble_eq_true rfl) (fun _ => rfl) h ?_
        intro r9 M10 h
        exact zr_ireturn dX7_takeBehindOperand_98 rfl rfl trivial (Nat.le_refl _) (Nat.le_refl _) (And.intro rfl h)
      · have h := h.2.2 hc
        refine zr_aload_n (pc' := 59) (i := 0) dX7_takeBehindOperand_58 rfl rfl rfl ?_
        refine zr_get (pc' := 62) dX7_takeBehindOperand_59 rfl ps_1 kd_1 fl_X7_110 kc_7 (gv_1_8 _) ?_
        refine zr_if_le (tgt := 93) (pc' := 65) dX7_takeBehindOperand_62 rfl rfl h.1 (fun hc => ?_) (fun hc => ?_)
        · have h := h.2.1 hc
          refine zr_aload_n (pc' := 94) (i := 0) dX7_takeBehindOperand_93 rfl rfl rfl ?_
          refine zr_aload_n (pc' := 95) (i := 1) dX7_takeBehindOperand_94 rfl rfl rfl ?_
          refine zn_callV (pc' := 98) (args := [.inr (.inr l1)]) (st := []) (st' := fun r11 => [.inl r11]) dX7_takeBehindOperand_95 rfl cv_X7_146 ⟨rfl, rfl, by decide, by decide⟩ rfl ps_1 kd_1 rfl rfl (Nat.le_of_ble_eq_true rfl) (fun _ => rfl) h ?_
          intro r11 M12 h
          exact zr_ireturn dX7_takeBehindOperand_98 rfl rfl trivial (Nat.le_refl _) (Nat.le_refl _) (And.intro rfl h)
        · have h := h.2.2 hc
          refine zr_aload_n (pc' := 66) (i := 0) dX7_takeBehindOperand_65 rfl rfl rfl ?_
          refine zr_aload_n (pc' := 67) (i := 1) dX7_takeBehindOperand_66 rfl rfl rfl ?_
          refine zr_iconst (pc' := 68) dX7_takeBehindOperand_67 rfl ?_
          refine zn_callV (pc' := 71) (args := [.inr (.inr l1), .inl 1]) (st := []) (st' := fun _ => []) dX7_takeBehindOperand_68 rfl cv_X7_139 ⟨rfl, rfl, by decide, by decide⟩ rfl ps_1 kd_1 rfl rfl (Nat.le_of_ble_eq_true rfl) (fun _ => rfl) h ?_
          intro r13 M14 h
          refine zr_aload_n (pc' := 72) (i := 0) dX7_takeBehindOperand_71 rfl rfl rfl ?_
          refine zr_dup (pc' := 73) dX7_takeBehindOperand_72 rfl rfl ?_
          refine zr_get (pc' := 76) dX7_takeBehindOperand_73 rfl ps_1 kd_1 fl_X7_107 kc_7 (gv_1_7 _) ?_
          refine zr_iconst (pc' := 77) dX7_takeBehindOperand_76 rfl ?_
          refine zr_isub (pc' := 78) dX7_takeBehindOperand_77 rfl ?_
          refine zr_put (pc' := 81) dX7_takeBehindOperand_78 rfl ps_1 kd_1 fl_X7_107 kc_7 rfl nf_1_7 rfl trivial (fun M15 hM1 => ?_)
          have h := h M15 hM1
          refine zr_aload_n (pc' := 82) (i := 0) dX7_takeBehindOperand_81 rfl rfl rfl ?_
          refine zr_dup (pc' := 83) dX7_takeBehindOperand_82 rfl rfl ?_
          refine zr_get (pc' := 86) dX7_takeBehindOperand_83 rfl ps_1 kd_1 fl_X7_110 kc_7 (gv_1_8 _) ?_
          refine zr_iconst (pc' := 87) dX7_takeBehindOperand_86 rfl ?_
          refine zr_isub (pc' := 88) dX7_takeBehindOperand_87 rfl ?_
          refine zr_put (pc' := 91) dX7_takeBehindOperand_88 rfl ps_1 kd_1 fl_X7_110 kc_7 rfl nf_1_8 rfl trivial (fun M16 hM1 => ?_)
          have h := h M16 hM1
          refine zr_iconst (pc' := 92) dX7_takeBehindOperand_91 rfl ?_
          exact zr_ireturn dX7_takeBehindOperand_92 rfl rfl trivial (Nat.le_refl _) (Nat.le_refl _) (And.intro rfl h)
    · have h := h.2.2 hc
      refine zr_aload_n (pc' := 22) (i := 0) dX7_takeBehindOperand_21 rfl rfl rfl ?_
      refine zr_aload_n (pc' := 23) (i := 1) dX7_takeBehindOperand_22 rfl rfl rfl ?_
      refine zr_iconst (pc' := 24) dX7_takeBehindOperand_23 rfl ?_
      refine zn_callV (pc' := 27) (args := [.inr (.inr l1), .inl 1]) (st := []) (st' := fun _ => []) dX7_takeBehindOperand_24 rfl cv_X7_139 ⟨rfl, rfl, by decide, by decide⟩ rfl ps_1 kd_1 rfl rfl (Nat.le_of_ble_eq_true rfl) (fun _ => rfl) h ?_
      intro r17 M18 h
      refine zr_aload_n (pc' := 28) (i := 1) dX7_takeBehindOperand_27 rfl rfl rfl ?_
      refine zr_aload_n (pc' := 29) (i := 0) dX7_takeBehindOperand_28 rfl rfl rfl ?_
      refine zr_get (pc' := 32) dX7_takeBehindOperand_29 rfl ps_1 kd_1 fl_X7_104 kc_7 (gv_1_5 _) ?_
      refine zn_callV (pc' := 35) (args := [.inl (M18 1 5)]) (st := []) (st' := fun _ => []) dX7_takeBehindOperand_32 rfl cv_X7_143 ⟨rfl, rfl, by decide, by decide⟩ rfl (is_6_pos hi1) (is_6_kd hi1) rfl rfl (Nat.le_of_ble_eq_true rfl) (fun _ => rfl) h ?_
      intro r19 M20 h
      refine zr_aload_n (pc' := 36) (i := 0) dX7_takeBehindOperand_35 rfl rfl rfl ?_
      refine zr_dup (pc' := 37) dX7_takeBehindOperand_36 rfl rfl ?_
      refine zr_get (pc' := 40) dX7_takeBehindOperand_37 rfl ps_1 kd_1 fl_X7_45 kc_7 (gv_1_4 _) ?_
      refine zr_iconst (pc' := 41) dX7_takeBehindOperand_40 rfl ?_
      refine zr_iadd (pc' := 42) dX7_takeBehindOperand_41 rfl ?_
      refine zr_put (pc' := 45) dX7_takeBehindOperand_42 rfl ps_1 kd_1 fl_X7_45 kc_7 rfl nf_1_4 rfl trivial (fun M21 hM1 => ?_)
      have h := h M21 hM1
      refine zr_aload_n (pc' := 46) (i := 0) dX7_takeBehindOperand_45 rfl rfl rfl ?_
      refine zr_iconst (pc' := 47) dX7_takeBehindOperand_46 rfl ?_
      refine zr_put (pc' := 50) dX7_takeBehindOperand_47 rfl ps_1 kd_1 fl_X7_42 kc_7 rfl nf_1_3 rfl trivial (fun M22 hM1 => ?_)
      have h := h M22 hM1
      refine zr_iconst (pc' := 51) dX7_takeBehindOperand_50 rfl ?_
      exact zr_ireturn dX7_takeBehindOperand_51 rfl rfl trivial (Nat.le_refl _) (Nat.le_refl _) (And.intro rfl h)
set_option maxRecDepth 20000 in
theorem vcX7_takeSign {E : zE} {M : zM} {Q : Int → zM → Prop} (l1 : Int) (hi1 : zIs_6 l1)
    (h : ((zR (M 2 4)) ∧ (((M 2 4) = 2 → (zP E mX11_within [.inl (M 2 4), .inl 25, .inl 30] M (fun r1 M2 => (zP E mX11_within [.inl (M 2 4), .inl 21, .inl 24] M2 (fun r3 M4 => ((zR r3) ∧ ((¬ r3 = 0 → (zP E mX7_strength [.inl (M 2 4)] M4 (fun r5 M6 => (zP E mX7_settle [.inr (.inr 1), .inr (.inr l1), .inl r5] M6 (fun r7 M8 => (zP E mX7_await [.inr (.inr 1), .inl (M 2 4)] M8 (fun r9 M10 => (∀ M11, M11 = zup M10 1 10 1 → (∀ M12, M12 = zup M11 1 3 4 → (zP E mX7_countKnot [.inr (.inr 1), .inr (.inr l1)] M12 (fun r13 M14 => Q r13 M14))))))))))) ∧ (r3 = 0 → (0 ≤ M4 1 8 ∧ M4 1 8 < 9 ∧ (r1 = 0 ∨ r1 = 1)) ∧ (∀ M15, M15 = zup M4 5 ((M4 1 8).toNat) r1 → (zP E mX7_strength [.inl (M 2 4)] M15 (fun r16 M17 => (zP E mX7_settle [.inr (.inr 1), .inr (.inr l1), .inl r16] M17 (fun r18 M19 => (zP E mX7_await [.inr (.inr 1), .inl (M 2 4)] M19 (fun r20 M21 => (∀ M22, M22 = zup M21 1 10 1 → (∀ M23, M23 = zup M22 1 3 4 → (zP E mX7_countKnot [.inr (.inr 1), .inr (.inr l1)] M23 (fun r24 M25 => Q r24 M25))))))))))))))))))) ∧ (¬ (M 2 4) = 2 → ((zR (M 2 4)) ∧ ((¬ (M 2 4) = 3 → (zP E mX11_within [.inl (M 2 4), .inl 25, .inl 30] M (fun r26 M27 => (zP E mX11_within [.inl (M 2 4), .inl 21, .inl 24] M27 (fun r28 M29 => ((zR r28) ∧ ((¬ r28 = 0 → ((zR r28) ∧ ((¬ r28 = 0 → (zP E mX7_strength [.inl (M 2 4)] M29 (fun r30 M31 => (zP E mX7_settle [.inr (.inr 1), .inr (.inr l1), .inl r30] M31 (fun r32 M33 => (zP E mX7_await [.inr (.inr 1), .inl (M 2 4)] M33 (fun r34 M35 => (∀ M36, M36 = zup M35 1 10 0 → (∀ M37, M37 = zup M36 1 3 4 → (zP E mX7_countKnot [.inr (.inr 1), .inr (.inr l1)] M37 (fun r38 M39 => Q r38 M39))))))))))) ∧ (r28 = 0 → (0 ≤ M29 1 8 ∧ M29 1 8 < 9 ∧ (r26 = 0 ∨ r26 = 1)) ∧ (∀ M40, M40 = zup M29 5 ((M29 1 8).toNat) r26 → (zP E mX7_strength [.inl (M 2 4)] M40 (fun r41 M42 => (zP E mX7_settle [.inr (.inr 1), .inr (.inr l1), .inl r41] M42 (fun r43 M44 => (zP E mX7_await [.inr (.inr 1), .inl (M 2 4)] M44 (fun r45 M46 => (∀ M47, M47 = zup M46 1 10 0 → (∀ M48, M48 = zup M47 1 3 4 → (zP E mX7_countKnot [.inr (.inr 1), .inr (.inr l1)] M48 (fun r49 M50 => Q r49 M50))))))))))))))) ∧ (r28 = 0 → ((zR r26) ∧ ((r26 = 0 → Q 1 M29) ∧ (¬ r26 = 0 → (0 ≤ M29 1 8 ∧ M29 1 8 < 9) ∧ ((zR (M29 5 ((M29 1 8).toNat))) ∧ (((M29 5 ((M29 1 8).toNat)) = 0 → ((zR r28) ∧ ((¬ r28 = 0 → (zP E mX7_strength [.inl (M 2 4)] M29 (fun r51 M52 => (zP E mX7_settle [.inr (.inr 1), .inr (.inr l1), .inl r51] M52 (fun r53 M54 => (zP E mX7_await [.inr (.inr 1), .inl (M 2 4)] M54 (fun r55 M56 => (∀ M57, M57 = zup M56 1 10 0 → (∀ M58, M58 = zup M57 1 3 4 → (zP E mX7_countKnot [.inr (.inr 1), .inr (.inr l1)] M58 (fun r59 M60 => Q r59 M60))))))))))) ∧ (r28 = 0 → (0 ≤ M29 1 8 ∧ M29 1 8 < 9 ∧ (r26 = 0 ∨ r26 = 1)) ∧ (∀ M61, M61 = zup M29 5 ((M29 1 8).toNat) r26 → (zP E mX7_strength [.inl (M 2 4)] M61 (fun r62 M63 => (zP E mX7_settle [.inr (.inr 1), .inr (.inr l1), .inl r62] M63 (fun r64 M65 => (zP E mX7_await [.inr (.inr 1), .inl (M 2 4)] M65 (fun r66 M67 => (∀ M68, M68 = zup M67 1 10 0 → (∀ M69, M69 = zup M68 1 3 4 → (zP E mX7_countKnot [.inr (.inr 1), .inr (.inr l1)] M69 (fun r70 M71 => Q r70 M71))))))))))))))) ∧ (¬ (M29 5 ((M29 1 8).toNat)) = 0 → Q 1 M29)))))))))))))) ∧ ((M 2 4) = 3 → (zP E mX11_within [.inl (M 2 4), .inl 25, .inl 30] M (fun r72 M73 => (zP E mX11_within [.inl (M 2 4), .inl 21, .inl 24] M73 (fun r74 M75 => ((zR r74) ∧ ((¬ r74 = 0 → (zP E mX7_strength [.inl (M 2 4)] M75 (fun r76 M77 => (zP E mX7_settle [.inr (.inr 1), .inr (.inr l1), .inl r76] M77 (fun r78 M79 => (zP E mX7_await [.inr (.inr 1), .inl (M 2 4)] M79 (fun r80 M81 => (∀ M82, M82 = zup M81 1 10 1 → (∀ M83, M83 = zup M82 1 3 4 → (zP E mX7_countKnot [.inr (.inr 1), .inr (.inr l1)] M83 (fun r84 M85 => Q r84 M85))))))))))) ∧ (r74 = 0 → (0 ≤ M75 1 8 ∧ M75 1 8 < 9 ∧ (r72 = 0 ∨ r72 = 1)) ∧ (∀ M86, M86 = zup M75 5 ((M75 1 8).toNat) r72 → (zP E mX7_strength [.inl (M 2 4)] M86 (fun r87 M88 => (zP E mX7_settle [.inr (.inr 1), .inr (.inr l1), .inl r87] M88 (fun r89 M90 => (zP E mX7_await [.inr (.inr 1), .inl (M 2 4)] M90 (fun r91 M92 => (∀ M93, M93 = zup M92 1 10 1 → (∀ M94, M94 = zup M93 1 3 4 → (zP E mX7_countKnot [.inr (.inr 1), .inr (.inr l1)] M94 (fun r95 M96 => Q r95 M96)))))))))))))))))))))))))
    : zP E mX7_takeSign [.inr (.inr 1), .inr (.inr l1)] M Q := by
  refine zP_of (by decide +kernel) rfl (Nat.le_of_ble_eq_true rfl) ?_
  show zA E zNN (0, 0) mX7_takeSign 0 [(0, .inr (.inr 1)), (1, .inr (.inr l1))] [] M (zQ Q)
  refine zr_aload_n (pc' := 1) (i := 0) dX7_takeSign_0 rfl rfl rfl ?_
  refine zr_get (pc' := 4) dX7_takeSign_1 rfl ps_1 kd_1 fl_X7_12 kc_7 (gv_1_0 _) ?_
  refine zr_get (pc' := 7) dX7_takeSign_4 rfl ps_2 kd_2 fl_X7_51 kc_9 (gv_2_4 _) ?_
  refine zr_istore_n (pc' := 8) (i := 2) (al' := [(2, .inl (M 2 4)), (0, .inr (.inr 1)), (1, .inr (.inr l1))]) dX7_takeSign_7 rfl rfl (by decide) rfl ?_
  refine zr_iload_n (pc' := 9) (i := 2) dX7_takeSign_8 rfl rfl rfl ?_
  refine zr_iconst (pc' := 10) dX7_takeSign_9 rfl ?_
  refine zr_icmp_eq (tgt := 18) (pc' := 13) dX7_takeSign_10 rfl rfl h.1 (zRd rfl) (fun hc => ?_) (fun hc => ?_)
  · have h := h.2.1 hc
    refine zr_iconst (pc' := 19) dX7_takeSign_18 rfl ?_
    refine zr_goto (pc' := 23) dX7_takeSign_19 rfl ?_
    refine zr_istore_n (pc' := 24) (i := 3) (al' := [(3, .inl 1), (2, .inl (M 2 4)), (0, .inr (.inr 1)), (1, .inr (.inr l1))]) dX7_takeSign_23 rfl rfl (by decide) rfl ?_
    refine zr_iload_n (pc' := 25) (i := 2) dX7_takeSign_24 rfl rfl rfl ?_
    refine zr_bipush (pc' := 27) dX7_takeSign_25 rfl rfl ?_
    refine zr_bipush (pc' := 29) dX7_takeSign_27 rfl rfl ?_
    refine zn_callSN (pc' := 32) (args := [.inl (M 2 4), .inl 25, .inl 30]) (st := []) (st' := fun r1 => [.inl r1]) dX7_takeSign_29 rfl cs_X7_93 ⟨rfl, rfl, by decide, by decide⟩ rfl rfl rfl (Nat.le_of_ble_eq_true rfl) (fun _ => rfl) h ?_
    intro r1 M2 h
    refine zr_istore (pc' := 34) (al' := [(4, .inl r1), (3, .inl 1), (2, .inl (M 2 4)), (0, .inr (.inr 1)), (1, .inr (.inr l1))]) dX7_takeSign_32 rfl (by decide) rfl ?_
    refine zr_iload_n (pc' := 35) (i := 2) dX7_takeSign_34 rfl rfl rfl ?_
    refine zr_bipush (pc' := 37) dX7_takeSign_35 rfl rfl ?_
    refine zr_bipush (pc' := 39) dX7_takeSign_37 rfl rfl ?_
    refine zn_callSN (pc' := 42) (args := [.inl (M 2 4), .inl 21, .inl 24]) (st := []) (st' := fun r3 => [.inl r3]) dX7_takeSign_39 rfl cs_X7_93 ⟨rfl, rfl, by decide, by decide⟩ rfl rfl rfl (Nat.le_of_ble_eq_true rfl) (fun _ => rfl) h ?_
    intro r3 M4 h
    refine zr_istore (pc' := 44) (al' := [(5, .inl r3), (4, .inl r1), (3, .inl 1), (2, .inl (M 2 4)), (0, .inr (.inr 1)), (1, .inr (.inr l1))]) dX7_takeSign_42 rfl (by decide) rfl ?_
    refine zr_iload_n (pc' := 45) (i := 3) dX7_takeSign_44 rfl rfl rfl ?_
    refine zr_if_ne (tgt := 72) (pc' := 48) dX7_takeSign_45 rfl rfl (zRd rfl) (fun _ => ?_) (fun hc => absurd hc (by decide))
    refine zr_iload (pc' := 74) dX7_takeSign_72 rfl rfl ?_
    refine zr_if_ne (tgt := 88) (pc' := 77) dX7_takeSign_74 rfl rfl h.1 (fun hc => ?_) (fun hc => ?_)
    · have h := h.2.1 hc
      refine zr_aload_n (pc' := 89) (i := 0) dX7_takeSign_88 rfl rfl rfl ?_
      refine zr_aload_n (pc' := 90) (i := 1) dX7_takeSign_89 rfl rfl rfl ?_
      refine zr_iload_n (pc' := 91) (i := 2) dX7_takeSign_90 rfl rfl rfl ?_
      refine zn_callS (pc' := 94) (args := [.inl (M 2 4)]) (st := [.inr (.inr l1), .inr (.inr 1)]) (st' := fun r5 => [.inl r5, .inr (.inr l1), .inr (.inr 1)]) dX7_takeSign_91 rfl cs_X7_149 ⟨rfl, rfl, by decide, by decide⟩ rfl rfl rfl (Nat.le_of_ble_eq_true rfl) (fun _ => rfl) h ?_
      intro r5 M6 h
      refine zn_callV (pc' := 97) (args := [.inr (.inr l1), .inl r5]) (st := []) (st' := fun _ => []) dX7_takeSign_94 rfl cv_X7_139 ⟨rfl, rfl, by decide, by decide⟩ rfl ps_1 kd_1 rfl rfl (Nat.le_of_ble_eq_true rfl) (fun _ => rfl) h ?_
      intro r7 M8 h
      refine zr_aload_n (pc' := 98) (i := 0) dX7_takeSign_97 rfl rfl rfl ?_
      refine zr_iload_n (pc' := 99) (i := 2) dX7_takeSign_98 rfl rfl rfl ?_
      refine zn_callV (pc' := 102) (args := [.inl (M 2 4)]) (st := []) (st' := fun _ => []) dX7_takeSign_99 rfl cv_X7_128 ⟨rfl, rfl, by decide, by decide⟩ rfl ps_1 kd_1 rfl rfl (Nat.le_of_ble_eq_true rfl) (fun _ => rfl) h ?_
      intro r9 M10 h
      refine zr_aload_n (pc' := 103) (i := 0) dX7_takeSign_102 rfl rfl rfl ?_
      refine zr_iload_n (pc' := 104) (i := 3) dX7_takeSign_103 rfl rfl rfl ?_
      refine zr_put (pc' := 107) dX7_takeSign_104 rfl ps_1 kd_1 fl_X7_113 kc_7 rfl nf_1_10 rfl (Or.inr rfl) (fun M11 hM1 => ?_)
      have h := h M11 hM1
      refine zr_aload_n (pc' := 108) (i := 0) dX7_takeSign_107 rfl rfl rfl ?_
      refine zr_iconst (pc' := 109) dX7_takeSign_108 rfl ?_
      refine zr_put (pc' := 112) dX7_takeSign_109 rfl ps_1 kd_1 fl_X7_42 kc_7 rfl nf_1_3 rfl trivial (fun M12 hM1 => ?_)
      have h := h M12 hM1
      refine zr_aload_n (pc' := 113) (i := 0) dX7_takeSign_112 rfl rfl rfl ?_
      refine zr_aload_n (pc' := 114) (i := 1) dX7_takeSign_113 rfl rfl rfl ?_
      refine zn_callV (pc' := 117) (args := [.inr (.inr l1)]) (st := []) (st' := fun r13 => [.inl r13]) dX7_takeSign_114 rfl cv_X7_125 ⟨rfl, rfl, by decide, by decide⟩ rfl ps_1 kd_1 rfl rfl (Nat.le_of_ble_eq_true rfl) (fun _ => rfl) h ?_
      intro r13 M14 h
      exact zr_ireturn dX7_takeSign_117 rfl rfl trivial (Nat.le_refl _) (Nat.le_refl _) (And.intro rfl h)
    · have h := h.2.2 hc
      refine zr_aload_n (pc' := 78) (i := 0) dX7_takeSign_77 rfl rfl rfl ?_
      refine zr_get (pc' := 81) dX7_takeSign_78 rfl ps_1 kd_1 fl_X7_28 kc_7 (gv_1_9 _) ?_
      refine zr_aload_n (pc' := 82) (i := 0) dX7_takeSign_81 rfl rfl rfl ?_
      refine zr_get (pc' := 85) dX7_takeSign_82 rfl ps_1 kd_1 fl_X7_110 kc_7 (gv_1_8 _) ?_
      refine zr_iload (pc' := 87) dX7_takeSign_85 rfl rfl ?_
      refine zr_zast (pc' := 88) dX7_takeSign_87 rfl ps_5 kd_5 (by decide) h.1.1 h.1.2.1 h.1.2.2 (fun M15 hM1 => ?_)
      have h := h.2 M15 hM1
      refine zr_aload_n (pc' := 89) (i := 0) dX7_takeSign_88 rfl rfl rfl ?_
      refine zr_aload_n (pc' := 90) (i := 1) dX7_takeSign_89 rfl rfl rfl ?_
      refine zr_iload_n (pc' := 91) (i := 2) dX7_takeSign_90 rfl rfl rfl ?_
      refine zn_callS (pc' := 94) (args := [.inl (M 2 4)]) (st := [.inr (.inr l1), .inr (.inr 1)]) (st' := fun r16 => [.inl r16, .inr (.inr l1), .inr (.inr 1)]) dX7_takeSign_91 rfl cs_X7_149 ⟨rfl, rfl, by decide, by decide⟩ rfl rfl rfl (Nat.le_of_ble_eq_true rfl) (fun _ => rfl) h ?_
      intro r16 M17 h
      refine zn_callV (pc' := 97) (args := [.inr (.inr l1), .inl r16]) (st := []) (st' := fun _ => []) dX7_takeSign_94 rfl cv_X7_139 ⟨rfl, rfl, by decide, by decide⟩ rfl ps_1 kd_1 rfl rfl (Nat.le_of_ble_eq_true rfl) (fun _ => rfl) h ?_
      intro r18 M19 h
      refine zr_aload_n (pc' := 98) (i := 0) dX7_takeSign_97 rfl rfl rfl ?_
      refine zr_iload_n (pc' := 99) (i := 2) dX7_takeSign_98 rfl rfl rfl ?_
      refine zn_callV (pc' := 102) (args := [.inl (M 2 4)]) (st := []) (st' := fun _ => []) dX7_takeSign_99 rfl cv_X7_128 ⟨rfl, rfl, by decide, by decide⟩ rfl ps_1 kd_1 rfl rfl (Nat.le_of_ble_eq_true rfl) (fun _ => rfl) h ?_
      intro r20 M21 h
      refine zr_aload_n (pc' := 103) (i := 0) dX7_takeSign_102 rfl rfl rfl ?_
      refine zr_iload_n (pc' := 104) (i := 3) dX7_takeSign_103 rfl rfl rfl ?_
      refine zr_put (pc' := 107) dX7_takeSign_104 rfl ps_1 kd_1 fl_X7_113 kc_7 rfl nf_1_10 rfl (Or.inr rfl) (fun M22 hM1 => ?_)
      have h := h M22 hM1
      refine zr_aload_n (pc' := 108) (i := 0) dX7_takeSign_107 rfl rfl rfl ?_
      refine zr_iconst (pc' := 109) dX7_takeSign_108 rfl ?_
      refine zr_put (pc' := 112) dX7_takeSign_109 rfl ps_1 kd_1 fl_X7_42 kc_7 rfl nf_1_3 rfl trivial (fun M23 hM1 => ?_)
      have h := h M23 hM1
      refine zr_aload_n (pc' := 113) (i := 0) dX7_takeSign_112 rfl rfl rfl ?_
      refine zr_aload_n (pc' := 114) (i := 1) dX7_takeSign_113 rfl rfl rfl ?_
      refine zn_callV (pc' := 117) (args := [.inr (.inr l1)]) (st := []) (st' := fun r24 => [.inl r24]) dX7_takeSign_114 rfl cv_X7_125 ⟨rfl, rfl, by decide, by decide⟩ rfl ps_1 kd_1 rfl rfl (Nat.le_of_ble_eq_true rfl) (fun _ => rfl) h ?_
      intro r24 M25 h
      exact zr_ireturn dX7_takeSign_117 rfl rfl trivial (Nat.le_refl _) (Nat.le_refl _) (And.intro rfl h)
  · have h := h.2.2 hc
    refine zr_iload_n (pc' := 14) (i := 2) dX7_takeSign_13 rfl rfl rfl ?_
    refine zr_iconst (pc' := 15) dX7_takeSign_14 rfl ?_
    refine zr_icmp_ne (tgt := 22) (pc' := 18) dX7_takeSign_15 rfl rfl h.1 (zRd rfl) (fun hc => ?_) (fun hc => ?_)
    · have h := h.2.1 hc
      refine zr_iconst (pc' := 23) dX7_takeSign_22 rfl ?_
      refine zr_istore_n (pc' := 24) (i := 3) (al' := [(3, .inl 0), (2, .inl (M 2 4)), (0, .inr (.inr 1)), (1, .inr (.inr l1))]) dX7_takeSign_23 rfl rfl (by decide) rfl ?_
      refine zr_iload_n (pc' := 25) (i := 2) dX7_takeSign_24 rfl rfl rfl ?_
      refine zr_bipush (pc' := 27) dX7_takeSign_25 rfl rfl ?_
      refine zr_bipush (pc' := 29) dX7_takeSign_27 rfl rfl ?_
      refine zn_callSN (pc' := 32) (args := [.inl (M 2 4), .inl 25, .inl 30]) (st := []) (st' := fun r26 => [.inl r26]) dX7_takeSign_29 rfl cs_X7_93 ⟨rfl, rfl, by decide, by decide⟩ rfl rfl rfl (Nat.le_of_ble_eq_true rfl) (fun _ => rfl) h ?_
      intro r26 M27 h
      refine zr_istore (pc' := 34) (al' := [(4, .inl r26), (3, .inl 0), (2, .inl (M 2 4)), (0, .inr (.inr 1)), (1, .inr (.inr l1))]) dX7_takeSign_32 rfl (by decide) rfl ?_
      refine zr_iload_n (pc' := 35) (i := 2) dX7_takeSign_34 rfl rfl rfl ?_
      refine zr_bipush (pc' := 37) dX7_takeSign_35 rfl rfl ?_
      refine zr_bipush (pc' := 39) dX7_takeSign_37 rfl rfl ?_
      refine zn_callSN (pc' := 42) (args := [.inl (M 2 4), .inl 21, .inl 24]) (st := []) (st' := fun r28 => [.inl r28]) dX7_takeSign_39 rfl cs_X7_93 ⟨rfl, rfl, by decide, by decide⟩ rfl rfl rfl (Nat.le_of_ble_eq_true rfl) (fun _ => rfl) h ?_
      intro r28 M29 h
      refine zr_istore (pc' := 44) (al' := [(5, .inl r28), (4, .inl r26), (3, .inl 0), (2, .inl (M 2 4)), (0, .inr (.inr 1)), (1, .inr (.inr l1))]) dX7_takeSign_42 rfl (by decide) rfl ?_
      refine zr_iload_n (pc' := 45) (i := 3) dX7_takeSign_44 rfl rfl rfl ?_
      refine zr_if_ne (tgt := 72) (pc' := 48) dX7_takeSign_45 rfl rfl (zRd rfl) (fun hc => absurd hc (by decide)) (fun _ => ?_)
      refine zr_iload (pc' := 50) dX7_takeSign_48 rfl rfl ?_
      refine zr_if_ne (tgt := 72) (pc' := 53) dX7_takeSign_50 rfl rfl h.1 (fun hc => ?_) (fun hc => ?_)
      · have h := h.2.1 hc
        refine zr_iload (pc' := 74) dX7_takeSign_72 rfl rfl ?_
        refine zr_if_ne (tgt := 88) (pc' := 77) dX7_takeSign_74 rfl rfl h.1 (fun hc => ?_) (fun hc => ?_)
        · have h := h.2.1 hc
          refine zr_aload_n (pc' := 89) (i := 0) dX7_takeSign_88 rfl rfl rfl ?_
          refine zr_aload_n (pc' := 90) (i := 1) dX7_takeSign_89 rfl rfl rfl ?_
          refine zr_iload_n (pc' := 91) (i := 2) dX7_takeSign_90 rfl rfl rfl ?_
          refine zn_callS (pc' := 94) (args := [.inl (M 2 4)]) (st := [.inr (.inr l1), .inr (.inr 1)]) (st' := fun r30 => [.inl r30, .inr (.inr l1), .inr (.inr 1)]) dX7_takeSign_91 rfl cs_X7_149 ⟨rfl, rfl, by decide, by decide⟩ rfl rfl rfl (Nat.le_of_ble_eq_true rfl) (fun _ => rfl) h ?_
          intro r30 M31 h
          refine zn_callV (pc' := 97) (args := [.inr (.inr l1), .inl r30]) (st := []) (st' := fun _ => []) dX7_takeSign_94 rfl cv_X7_139 ⟨rfl, rfl, by decide, by decide⟩ rfl ps_1 kd_1 rfl rfl (Nat.le_of_ble_eq_true rfl) (fun _ => rfl) h ?_
          intro r32 M33 h
          refine zr_aload_n (pc' := 98) (i := 0) dX7_takeSign_97 rfl rfl rfl ?_
          refine zr_iload_n (pc' := 99) (i := 2) dX7_takeSign_98 rfl rfl rfl ?_
          refine zn_callV (pc' := 102) (args := [.inl (M 2 4)]) (st := []) (st' := fun _ => []) dX7_takeSign_99 rfl cv_X7_128 ⟨rfl, rfl, by decide, by decide⟩ rfl ps_1 kd_1 rfl rfl (Nat.le_of_ble_eq_true rfl) (fun _ => rfl) h ?_
          intro r34 M35 h
          refine zr_aload_n (pc' := 103) (i := 0) dX7_takeSign_102 rfl rfl rfl ?_
          refine zr_iload_n (pc' := 104) (i := 3) dX7_takeSign_103 rfl rfl rfl ?_
          refine zr_put (pc' := 107) dX7_takeSign_104 rfl ps_1 kd_1 fl_X7_113 kc_7 rfl nf_1_10 rfl (Or.inl rfl) (fun M36 hM1 => ?_)
          have h := h M36 hM1
          refine zr_aload_n (pc' := 108) (i := 0) dX7_takeSign_107 rfl rfl rfl ?_
          refine zr_iconst (pc' := 109) dX7_takeSign_108 rfl ?_
          refine zr_put (pc' := 112) dX7_takeSign_109 rfl ps_1 kd_1 fl_X7_42 kc_7 rfl nf_1_3 rfl trivial (fun M37 hM1 => ?_)
          have h := h M37 hM1
          refine zr_aload_n (pc' := 113) (i := 0) dX7_takeSign_112 rfl rfl rfl ?_
          refine zr_aload_n (pc' := 114) (i := 1) dX7_takeSign_113 rfl rfl rfl ?_
          refine zn_callV (pc' := 117) (args := [.inr (.inr l1)]) (st := []) (st' := fun r38 => [.inl r38]) dX7_takeSign_114 rfl cv_X7_125 ⟨rfl, rfl, by decide, by decide⟩ rfl ps_1 kd_1 rfl rfl (Nat.le_of_ble_eq_true rfl) (fun _ => rfl) h ?_
          intro r38 M39 h
          exact zr_ireturn dX7_takeSign_117 rfl rfl trivial (Nat.le_refl _) (Nat.le_refl _) (And.intro rfl h)
        · have h := h.2.2 hc
          refine zr_aload_n (pc' := 78) (i := 0) dX7_takeSign_77 rfl rfl rfl ?_
          refine zr_get (pc' := 81) dX7_takeSign_78 rfl ps_1 kd_1 fl_X7_28 kc_7 (gv_1_9 _) ?_
          refine zr_aload_n (pc' := 82) (i := 0) dX7_takeSign_81 rfl rfl rfl ?_
          refine zr_get (pc' := 85) dX7_takeSign_82 rfl ps_1 kd_1 fl_X7_110 kc_7 (gv_1_8 _) ?_
          refine zr_iload (pc' := 87) dX7_takeSign_85 rfl rfl ?_
          refine zr_zast (pc' := 88) dX7_takeSign_87 rfl ps_5 kd_5 (by decide) h.1.1 h.1.2.1 h.1.2.2 (fun M40 hM1 => ?_)
          have h := h.2 M40 hM1
          refine zr_aload_n (pc' := 89) (i := 0) dX7_takeSign_88 rfl rfl rfl ?_
          refine zr_aload_n (pc' := 90) (i := 1) dX7_takeSign_89 rfl rfl rfl ?_
          refine zr_iload_n (pc' := 91) (i := 2) dX7_takeSign_90 rfl rfl rfl ?_
          refine zn_callS (pc' := 94) (args := [.inl (M 2 4)]) (st := [.inr (.inr l1), .inr (.inr 1)]) (st' := fun r41 => [.inl r41, .inr (.inr l1), .inr (.inr 1)]) dX7_takeSign_91 rfl cs_X7_149 ⟨rfl, rfl, by decide, by decide⟩ rfl rfl rfl (Nat.le_of_ble_eq_true rfl) (fun _ => rfl) h ?_
          intro r41 M42 h
          refine zn_callV (pc' := 97) (args := [.inr (.inr l1), .inl r41]) (st := []) (st' := fun _ => []) dX7_takeSign_94 rfl cv_X7_139 ⟨rfl, rfl, by decide, by decide⟩ rfl ps_1 kd_1 rfl rfl (Nat.le_of_ble_eq_true rfl) (fun _ => rfl) h ?_
          intro r43 M44 h
          refine zr_aload_n (pc' := 98) (i := 0) dX7_takeSign_97 rfl rfl rfl ?_
          refine zr_iload_n (pc' := 99) (i := 2) dX7_takeSign_98 rfl rfl rfl ?_
          refine zn_callV (pc' := 102) (args := [.inl (M 2 4)]) (st := []) (st' := fun _ => []) dX7_takeSign_99 rfl cv_X7_128 ⟨rfl, rfl, by decide, by decide⟩ rfl ps_1 kd_1 rfl rfl (Nat.le_of_ble_eq_true rfl) (fun _ => rfl) h ?_
          intro r45 M46 h
          refine zr_aload_n (pc' := 103) (i := 0) dX7_takeSign_102 rfl rfl rfl ?_
          refine zr_iload_n (pc' := 104) (i := 3) dX7_takeSign_103 rfl rfl rfl ?_
          refine zr_put (pc' := 107) dX7_takeSign_104 rfl ps_1 kd_1 fl_X7_113 kc_7 rfl nf_1_10 rfl (Or.inl rfl) (fun M47 hM1 => ?_)
          have h := h M47 hM1
          refine zr_aload_n (pc' := 108) (i := 0) dX7_takeSign_107 rfl rfl rfl ?_
          refine zr_iconst (pc' := 109) dX7_takeSign_108 rfl ?_
          refine zr_put (pc' := 112) dX7_takeSign_109 rfl ps_1 kd_1 fl_X7_42 kc_7 rfl nf_1_3 rfl trivial (fun M48 hM1 => ?_)
          have h := h M48 hM1
          refine zr_aload_n (pc' := 113) (i := 0) dX7_takeSign_112 rfl rfl rfl ?_
          refine zr_aload_n (pc' := 114) (i := 1) dX7_takeSign_113 rfl rfl rfl ?_
          refine zn_callV (pc' := 117) (args := [.inr (.inr l1)]) (st := []) (st' := fun r49 => [.inl r49]) dX7_takeSign_114 rfl cv_X7_125 ⟨rfl, rfl, by decide, by decide⟩ rfl ps_1 kd_1 rfl rfl (Nat.le_of_ble_eq_true rfl) (fun _ => rfl) h ?_
          intro r49 M50 h
          exact zr_ireturn dX7_takeSign_117 rfl rfl trivial (Nat.le_refl _) (Nat.le_refl _) (And.intro rfl h)
      · have h := h.2.2 hc
        refine zr_iload (pc' := 55) dX7_takeSign_53 rfl rfl ?_
        refine zr_if_eq (tgt := 70) (pc' := 58) dX7_takeSign_55 rfl rfl h.1 (fun hc => ?_) (fun hc => ?_)
        · have h := h.2.1 hc
          refine zr_iconst (pc' := 71) dX7_takeSign_70 rfl ?_
          exact zr_ireturn dX7_takeSign_71 rfl rfl trivial (Nat.le_refl _) (Nat.le_refl _) (And.intro rfl h)
        · have h := h.2.2 hc
          refine zr_aload_n (pc' := 59) (i := 0) dX7_takeSign_58 rfl rfl rfl ?_
          refine zr_get (pc' := 62) dX7_takeSign_59 rfl ps_1 kd_1 fl_X7_28 kc_7 (gv_1_9 _) ?_
          refine zr_aload_n (pc' := 63) (i := 0) dX7_takeSign_62 rfl rfl rfl ?_
          refine zr_get (pc' := 66) dX7_takeSign_63 rfl ps_1 kd_1 fl_X7_110 kc_7 (gv_1_8 _) ?_
          refine zr_zald (pc' := 67) dX7_takeSign_66 rfl ps_5 kd_5 (by decide) h.1.1 h.1.2 ?_
          have h := h.2
          refine zr_if_eq (tgt := 72) (pc' := 70) dX7_takeSign_67 rfl rfl h.1 (fun hc => ?_) (fun hc => ?_)
          · have h := h.2.1 hc
            refine zr_iload (pc' := 74) dX7_takeSign_72 rfl rfl ?_
            refine zr_if_ne (tgt := 88) (pc' := 77) dX7_takeSign_74 rfl rfl h.1 (fun hc => ?_) (fun hc => ?_)
            · have h := h.2.1 hc
              refine zr_aload_n (pc' := 89) (i := 0) dX7_takeSign_88 rfl rfl rfl ?_
              refine zr_aload_n (pc' := 90) (i := 1) dX7_takeSign_89 rfl rfl rfl ?_
              refine zr_iload_n (pc' := 91) (i := 2) dX7_takeSign_90 rfl rfl rfl ?_
              refine zn_callS (pc' := 94) (args := [.inl (M 2 4)]) (st := [.inr (.inr l1), .inr (.inr 1)]) (st' := fun r51 => [.inl r51, .inr (.inr l1), .inr (.inr 1)]) dX7_takeSign_91 rfl cs_X7_149 ⟨rfl, rfl, by decide, by decide⟩ rfl rfl rfl (Nat.le_of_ble_eq_true rfl) (fun _ => rfl) h ?_
              intro r51 M52 h
              refine zn_callV (pc' := 97) (args := [.inr (.inr l1), .inl r51]) (st := []) (st' := fun _ => []) dX7_takeSign_94 rfl cv_X7_139 ⟨rfl, rfl, by decide, by decide⟩ rfl ps_1 kd_1 rfl rfl (Nat.le_of_ble_eq_true rfl) (fun _ => rfl) h ?_
              intro r53 M54 h
              refine zr_aload_n (pc' := 98) (i := 0) dX7_takeSign_97 rfl rfl rfl ?_
              refine zr_iload_n (pc' := 99) (i := 2) dX7_takeSign_98 rfl rfl rfl ?_
              refine zn_callV (pc' := 102) (args := [.inl (M 2 4)]) (st := []) (st' := fun _ => []) dX7_takeSign_99 rfl cv_X7_128 ⟨rfl, rfl, by decide, by decide⟩ rfl ps_1 kd_1 rfl rfl (Nat.le_of_ble_eq_true rfl) (fun _ => rfl) h ?_
              intro r55 M56 h
              refine zr_aload_n (pc' := 103) (i := 0) dX7_takeSign_102 rfl rfl rfl ?_
              refine zr_iload_n (pc' := 104) (i := 3) dX7_takeSign_103 rfl rfl rfl ?_
              refine zr_put (pc' := 107) dX7_takeSign_104 rfl ps_1 kd_1 fl_X7_113 kc_7 rfl nf_1_10 rfl (Or.inl rfl) (fun M57 hM1 => ?_)
              have h := h M57 hM1
              refine zr_aload_n (pc' := 108) (i := 0) dX7_takeSign_107 rfl rfl rfl ?_
              refine zr_iconst (pc' := 109) dX7_takeSign_108 rfl ?_
              refine zr_put (pc' := 112) dX7_takeSign_109 rfl ps_1 kd_1 fl_X7_42 kc_7 rfl nf_1_3 rfl trivial (fun M58 hM1 => ?_)
              have h := h M58 hM1
              refine zr_aload_n (pc' := 113) (i := 0) dX7_takeSign_112 rfl rfl rfl ?_
              refine zr_aload_n (pc' := 114) (i := 1) dX7_takeSign_113 rfl rfl rfl ?_
              refine zn_callV (pc' := 117) (args := [.inr (.inr l1)]) (st := []) (st' := fun r59 => [.inl r59]) dX7_takeSign_114 rfl cv_X7_125 ⟨rfl, rfl, by decide, by decide⟩ rfl ps_1 kd_1 rfl rfl (Nat.le_of_ble_eq_true rfl) (fun _ => rfl) h ?_
              intro r59 M60 h
              exact zr_ireturn dX7_takeSign_117 rfl rfl trivial (Nat.le_refl _) (Nat.le_refl _) (And.intro rfl h)
            · have h := h.2.2 hc
              refine zr_aload_n (pc' := 78) (i := 0) dX7_takeSign_77 rfl rfl rfl ?_
              refine zr_get (pc' := 81) dX7_takeSign_78 rfl ps_1 kd_1 fl_X7_28 kc_7 (gv_1_9 _) ?_
              refine zr_aload_n (pc' := 82) (i := 0) dX7_takeSign_81 rfl rfl rfl ?_
              refine zr_get (pc' := 85) dX7_takeSign_82 rfl ps_1 kd_1 fl_X7_110 kc_7 (gv_1_8 _) ?_
              refine zr_iload (pc' := 87) dX7_takeSign_85 rfl rfl ?_
              refine zr_zast (pc' := 88) dX7_takeSign_87 rfl ps_5 kd_5 (by decide) h.1.1 h.1.2.1 h.1.2.2 (fun M61 hM1 => ?_)
              have h := h.2 M61 hM1
              refine zr_aload_n (pc' := 89) (i := 0) dX7_takeSign_88 rfl rfl rfl ?_
              refine zr_aload_n (pc' := 90) (i := 1) dX7_takeSign_89 rfl rfl rfl ?_
              refine zr_iload_n (pc' := 91) (i := 2) dX7_takeSign_90 rfl rfl rfl ?_
              refine zn_callS (pc' := 94) (args := [.inl (M 2 4)]) (st := [.inr (.inr l1), .inr (.inr 1)]) (st' := fun r62 => [.inl r62, .inr (.inr l1), .inr (.inr 1)]) dX7_takeSign_91 rfl cs_X7_149 ⟨rfl, rfl, by decide, by decide⟩ rfl rfl rfl (Nat.le_of_ble_eq_true rfl) (fun _ => rfl) h ?_
              intro r62 M63 h
              refine zn_callV (pc' := 97) (args := [.inr (.inr l1), .inl r62]) (st := []) (st' := fun _ => []) dX7_takeSign_94 rfl cv_X7_139 ⟨rfl, rfl, by decide, by decide⟩ rfl ps_1 kd_1 rfl rfl (Nat.le_of_ble_eq_true rfl) (fun _ => rfl) h ?_
              intro r64 M65 h
              refine zr_aload_n (pc' := 98) (i := 0) dX7_takeSign_97 rfl rfl rfl ?_
              refine zr_iload_n (pc' := 99) (i := 2) dX7_takeSign_98 rfl rfl rfl ?_
              refine zn_callV (pc' := 102) (args := [.inl (M 2 4)]) (st := []) (st' := fun _ => []) dX7_takeSign_99 rfl cv_X7_128 ⟨rfl, rfl, by decide, by decide⟩ rfl ps_1 kd_1 rfl rfl (Nat.le_of_ble_eq_true rfl) (fun _ => rfl) h ?_
              intro r66 M67 h
              refine zr_aload_n (pc' := 103) (i := 0) dX7_takeSign_102 rfl rfl rfl ?_
              refine zr_iload_n (pc' := 104) (i := 3) dX7_takeSign_103 rfl rfl rfl ?_
              refine zr_put (pc' := 107) dX7_takeSign_104 rfl ps_1 kd_1 fl_X7_113 kc_7 rfl nf_1_10 rfl (Or.inl rfl) (fun M68 hM1 => ?_)
              have h := h M68 hM1
              refine zr_aload_n (pc' := 108) (i := 0) dX7_takeSign_107 rfl rfl rfl ?_
              refine zr_iconst (pc' := 109) dX7_takeSign_108 rfl ?_
              refine zr_put (pc' := 112) dX7_takeSign_109 rfl ps_1 kd_1 fl_X7_42 kc_7 rfl nf_1_3 rfl trivial (fun M69 hM1 => ?_)
              have h := h M69 hM1
              refine zr_aload_n (pc' := 113) (i := 0) dX7_takeSign_112 rfl rfl rfl ?_
              refine zr_aload_n (pc' := 114) (i := 1) dX7_takeSign_113 rfl rfl rfl ?_
              refine zn_callV (pc' := 117) (args := [.inr (.inr l1)]) (st := []) (st' := fun r70 => [.inl r70]) dX7_takeSign_114 rfl cv_X7_125 ⟨rfl, rfl, by decide, by decide⟩ rfl ps_1 kd_1 rfl rfl (Nat.le_of_ble_eq_true rfl) (fun _ => rfl) h ?_
              intro r70 M71 h
              exact zr_ireturn dX7_takeSign_117 rfl rfl trivial (Nat.le_refl _) (Nat.le_refl _) (And.intro rfl h)
          · have h := h.2.2 hc
            refine zr_iconst (pc' := 71) dX7_takeSign_70 rfl ?_
            exact zr_ireturn dX7_takeSign_71 rfl rfl trivial (Nat.le_refl _) (Nat.le_refl _) (And.intro rfl h)
    · have h := h.2.2 hc
      refine zr_iconst (pc' := 19) dX7_takeSign_18 rfl ?_
      refine zr_goto (pc' := 23) dX7_takeSign_19 rfl ?_
      refine zr_istore_n (pc' := 24) (i := 3) (al' := [(3, .inl 1), (2, .inl (M 2 4)), (0, .inr (.inr 1)), (1, .inr (.inr l1))]) dX7_takeSign_23 rfl rfl (by decide) rfl ?_
      refine zr_iload_n (pc' := 25) (i := 2) dX7_takeSign_24 rfl rfl rfl ?_
      refine zr_bipush (pc' := 27) dX7_takeSign_25 rfl rfl ?_
      refine zr_bipush (pc' := 29) dX7_takeSign_27 rfl rfl ?_
      refine zn_callSN (pc' := 32) (args := [.inl (M 2 4), .inl 25, .inl 30]) (st := []) (st' := fun r72 => [.inl r72]) dX7_takeSign_29 rfl cs_X7_93 ⟨rfl, rfl, by decide, by decide⟩ rfl rfl rfl (Nat.le_of_ble_eq_true rfl) (fun _ => rfl) h ?_
      intro r72 M73 h
      refine zr_istore (pc' := 34) (al' := [(4, .inl r72), (3, .inl 1), (2, .inl (M 2 4)), (0, .inr (.inr 1)), (1, .inr (.inr l1))]) dX7_takeSign_32 rfl (by decide) rfl ?_
      refine zr_iload_n (pc' := 35) (i := 2) dX7_takeSign_34 rfl rfl rfl ?_
      refine zr_bipush (pc' := 37) dX7_takeSign_35 rfl rfl ?_
      refine zr_bipush (pc' := 39) dX7_takeSign_37 rfl rfl ?_
      refine zn_callSN (pc' := 42) (args := [.inl (M 2 4), .inl 21, .inl 24]) (st := []) (st' := fun r74 => [.inl r74]) dX7_takeSign_39 rfl cs_X7_93 ⟨rfl, rfl, by decide, by decide⟩ rfl rfl rfl (Nat.le_of_ble_eq_true rfl) (fun _ => rfl) h ?_
      intro r74 M75 h
      refine zr_istore (pc' := 44) (al' := [(5, .inl r74), (4, .inl r72), (3, .inl 1), (2, .inl (M 2 4)), (0, .inr (.inr 1)), (1, .inr (.inr l1))]) dX7_takeSign_42 rfl (by decide) rfl ?_
      refine zr_iload_n (pc' := 45) (i := 3) dX7_takeSign_44 rfl rfl rfl ?_
      refine zr_if_ne (tgt := 72) (pc' := 48) dX7_takeSign_45 rfl rfl (zRd rfl) (fun _ => ?_) (fun hc => absurd hc (by decide))
      refine zr_iload (pc' := 74) dX7_takeSign_72 rfl rfl ?_
      refine zr_if_ne (tgt := 88) (pc' := 77) dX7_takeSign_74 rfl rfl h.1 (fun hc => ?_) (fun hc => ?_)
      · have h := h.2.1 hc
        refine zr_aload_n (pc' := 89) (i := 0) dX7_takeSign_88 rfl rfl rfl ?_
        refine zr_aload_n (pc' := 90) (i := 1) dX7_takeSign_89 rfl rfl rfl ?_
        refine zr_iload_n (pc' := 91) (i := 2) dX7_takeSign_90 rfl rfl rfl ?_
        refine zn_callS (pc' := 94) (args := [.inl (M 2 4)]) (st := [.inr (.inr l1), .inr (.inr 1)]) (st' := fun r76 => [.inl r76, .inr (.inr l1), .inr (.inr 1)]) dX7_takeSign_91 rfl cs_X7_149 ⟨rfl, rfl, by decide, by decide⟩ rfl rfl rfl (Nat.le_of_ble_eq_true rfl) (fun _ => rfl) h ?_
        intro r76 M77 h
        refine zn_callV (pc' := 97) (args := [.inr (.inr l1), .inl r76]) (st := []) (st' := fun _ => []) dX7_takeSign_94 rfl cv_X7_139 ⟨rfl, rfl, by decide, by decide⟩ rfl ps_1 kd_1 rfl rfl (Nat.le_of_ble_eq_true rfl) (fun _ => rfl) h ?_
        intro r78 M79 h
        refine zr_aload_n (pc' := 98) (i := 0) dX7_takeSign_97 rfl rfl rfl ?_
        refine zr_iload_n (pc' := 99) (i := 2) dX7_takeSign_98 rfl rfl rfl ?_
        refine zn_callV (pc' := 102) (args := [.inl (M 2 4)]) (st := []) (st' := fun _ => []) dX7_takeSign_99 rfl cv_X7_128 ⟨rfl, rfl, by decide, by decide⟩ rfl ps_1 kd_1 rfl rfl (Nat.le_of_ble_eq_true rfl) (fun _ => rfl) h ?_
        intro r80 M81 h
        refine zr_aload_n (pc' := 103) (i := 0) dX7_takeSign_102 rfl rfl rfl ?_
        refine zr_iload_n (pc' := 104) (i := 3) dX7_takeSign_103 rfl rfl rfl ?_
        refine zr_put (pc' := 107) dX7_takeSign_104 rfl ps_1 kd_1 fl_X7_113 kc_7 rfl nf_1_10 rfl (Or.inr rfl) (fun M82 hM1 => ?_)
        have h := h M82 hM1
        refine zr_aload_n (pc' := 108) (i := 0) dX7_takeSign_107 rfl rfl rfl ?_
        refine zr_iconst (pc' := 109) dX7_takeSign_108 rfl ?_
        refine zr_put (pc' := 112) dX7_takeSign_109 rfl ps_1 kd_1 fl_X7_42 kc_7 rfl nf_1_3 rfl trivial (fun M83 hM1 => ?_)
        have h := h M83 hM1
        refine zr_aload_n (pc' := 113) (i := 0) dX7_takeSign_112 rfl rfl rfl ?_
        refine zr_aload_n (pc' := 114) (i := 1) dX7_takeSign_113 rfl rfl rfl ?_
        refine zn_callV (pc' := 117) (args := [.inr (.inr l1)]) (st := []) (st' := fun r84 => [.inl r84]) dX7_takeSign_114 rfl cv_X7_125 ⟨rfl, rfl, by decide, by decide⟩ rfl ps_1 kd_1 rfl rfl (Nat.le_of_ble_eq_true rfl) (fun _ => rfl) h ?_
        intro r84 M85 h
        exact zr_ireturn dX7_takeSign_117 rfl rfl trivial (Nat.le_refl _) (Nat.le_refl _) (And.intro rfl h)
      · have h := h.2.2 hc
        refine zr_aload_n (pc' := 78) (i := 0) dX7_takeSign_77 rfl rfl rfl ?_
        refine zr_get (pc' := 81) dX7_takeSign_78 rfl ps_1 kd_1 fl_X7_28 kc_7 (gv_1_9 _) ?_
        refine zr_aload_n (pc' := 82) (i := 0) dX7_takeSign_81 rfl rfl rfl ?_
        refine zr_get (pc' := 85) dX7_takeSign_82 rfl ps_1 kd_1 fl_X7_110 kc_7 (gv_1_8 _) ?_
        refine zr_iload (pc' := 87) dX7_takeSign_85 rfl rfl ?_
        refine zr_zast (pc' := 88) dX7_takeSign_87 rfl ps_5 kd_5 (by decide) h.1.1 h.1.2.1 h.1.2.2 (fun M86 hM1 => ?_)
        have h := h.2 M86 hM1
        refine zr_aload_n (pc' := 89) (i := 0) dX7_takeSign_88 rfl rfl rfl ?_
        refine zr_aload_n (pc' := 90) (i := 1) dX7_takeSign_89 rfl rfl rfl ?_
        refine zr_iload_n (pc' := 91) (i := 2) dX7_takeSign_90 rfl rfl rfl ?_
        refine zn_callS (pc' := 94) (args := [.inl (M 2 4)]) (st := [.inr (.inr l1), .inr (.inr 1)]) (st' := fun r87 => [.inl r87, .inr (.inr l1), .inr (.inr 1)]) dX7_takeSign_91 rfl cs_X7_149 ⟨rfl, rfl, by decide, by decide⟩ rfl rfl rfl (Nat.le_of_ble_eq_true rfl) (fun _ => rfl) h ?_
        intro r87 M88 h
        refine zn_callV (pc' := 97) (args := [.inr (.inr l1), .inl r87]) (st := []) (st' := fun _ => []) dX7_takeSign_94 rfl cv_X7_139 ⟨rfl, rfl, by decide, by decide⟩ rfl ps_1 kd_1 rfl rfl (Nat.le_of_ble_eq_true rfl) (fun _ => rfl) h ?_
        intro r89 M90 h
        refine zr_aload_n (pc' := 98) (i := 0) dX7_takeSign_97 rfl rfl rfl ?_
        refine zr_iload_n (pc' := 99) (i := 2) dX7_takeSign_98 rfl rfl rfl ?_
        refine zn_callV (pc' := 102) (args := [.inl (M 2 4)]) (st := []) (st' := fun _ => []) dX7_takeSign_99 rfl cv_X7_128 ⟨rfl, rfl, by decide, by decide⟩ rfl ps_1 kd_1 rfl rfl (Nat.le_of_ble_eq_true rfl) (fun _ => rfl) h ?_
        intro r91 M92 h
        refine zr_aload_n (pc' := 103) (i := 0) dX7_takeSign_102 rfl rfl rfl ?_
        refine zr_iload_n (pc' := 104) (i := 3) dX7_takeSign_103 rfl rfl rfl ?_
        refine zr_put (pc' := 107) dX7_takeSign_104 rfl ps_1 kd_1 fl_X7_113 kc_7 rfl nf_1_10 rfl (Or.inr rfl) (fun M93 hM1 => ?_)
        have h := h M93 hM1
        refine zr_aload_n (pc' := 108) (i := 0) dX7_takeSign_107 rfl rfl rfl ?_
        refine zr_iconst (pc' := 109) dX7_takeSign_108 rfl ?_
        refine zr_put (pc' := 112) dX7_takeSign_109 rfl ps_1 kd_1 fl_X7_42 kc_7 rfl nf_1_3 rfl trivial (fun M94 hM1 => ?_)
        have h := h M94 hM1
        refine zr_aload_n (pc' := 113) (i := 0) dX7_takeSign_112 rfl rfl rfl ?_
        refine zr_aload_n (pc' := 114) (i := 1) dX7_takeSign_113 rfl rfl rfl ?_
        refine zn_callV (pc' := 117) (args := [.inr (.inr l1)]) (st := []) (st' := fun r95 => [.inl r95]) dX7_takeSign_114 rfl cv_X7_125 ⟨rfl, rfl, by decide, by decide⟩ rfl ps_1 kd_1 rfl rfl (Nat.le_of_ble_eq_true rfl) (fun _ => rfl) h ?_
        intro r95 M96 h
        exact zr_ireturn dX7_takeSign_117 rfl rfl trivial (Nat.le_refl _) (Nat.le_refl _) (And.intro rfl h)
set_option maxRecDepth 20000 in
theorem vcX7_countKnot {E : zE} {M : zM} {Q : Int → zM → Prop} (l1 : Int) (hi1 : zIs_6 l1)
    (h : (∀ M1, M1 = zup M l1.toNat 9 ((M l1.toNat 9) + 1) → ((zR (M1 l1.toNat 9)) ∧ (((M1 l1.toNat 9) ≤ 64 → Q 0 M1) ∧ (64 < (M1 l1.toNat 9) → Q 2 M1)))))
    : zP E mX7_countKnot [.inr (.inr 1), .inr (.inr l1)] M Q := by
  refine zP_of (by decide +kernel) rfl (Nat.le_of_ble_eq_true rfl) ?_
  show zA E zNN (0, 0) mX7_countKnot 0 [(0, .inr (.inr 1)), (1, .inr (.inr l1))] [] M (zQ Q)
  refine zr_aload_n (pc' := 1) (i := 1) dX7_countKnot_0 rfl rfl rfl ?_
  refine zr_dup (pc' := 2) dX7_countKnot_1 rfl rfl ?_
  refine zr_get (pc' := 5) dX7_countKnot_2 rfl (is_6_pos hi1) (is_6_kd hi1) fl_X7_153 kc_6 (is_6_gv_9 hi1 _) ?_
  refine zr_iconst (pc' := 6) dX7_countKnot_5 rfl ?_
  refine zr_iadd (pc' := 7) dX7_countKnot_6 rfl ?_
  refine zr_put (pc' := 10) dX7_countKnot_7 rfl (is_6_pos hi1) (is_6_kd hi1) fl_X7_153 kc_6 rfl (is_6_nf_9 hi1) rfl trivial (fun M1 hM1 => ?_)
  have h := h M1 hM1
  refine zr_aload_n (pc' := 11) (i := 1) dX7_countKnot_10 rfl rfl rfl ?_
  refine zr_get (pc' := 14) dX7_countKnot_11 rfl (is_6_pos hi1) (is_6_kd hi1) fl_X7_153 kc_6 (is_6_gv_9 hi1 _) ?_
  refine zr_bipush (pc' := 16) dX7_countKnot_14 rfl rfl ?_
  refine zr_icmp_le (tgt := 23) (pc' := 19) dX7_countKnot_16 rfl rfl h.1 (zRd rfl) (fun hc => ?_) (fun hc => ?_)
  · have h := h.2.1 hc
    refine zr_iconst (pc' := 24) dX7_countKnot_23 rfl ?_
    exact zr_ireturn dX7_countKnot_24 rfl rfl trivial (Nat.le_refl _) (Nat.le_refl _) (And.intro rfl h)
  · have h := h.2.2 hc
    refine zr_iconst (pc' := 20) dX7_countKnot_19 rfl ?_
    refine zr_goto (pc' := 24) dX7_countKnot_20 rfl ?_
    exact zr_ireturn dX7_countKnot_24 rfl rfl trivial (Nat.le_refl _) (Nat.le_refl _) (And.intro rfl h)
set_option maxRecDepth 20000 in
theorem vcX7_await {E : zE} {M : zM} {Q : Int → zM → Prop} (l1 : Int)
    (h : ((zR (M 1 7)) ∧ ((72 ≤ (M 1 7) → Q 0 M) ∧ ((M 1 7) < 72 → (0 ≤ M 1 7 ∧ M 1 7 < 72) ∧ (∀ M1, M1 = zup M 4 ((M 1 7).toNat) l1 → (∀ M2, M2 = zup M1 1 7 ((M1 1 7) + 1) → Q 0 M2))))))
    : zP E mX7_await [.inr (.inr 1), .inl l1] M Q := by
  refine zP_of (by decide +kernel) rfl (Nat.le_of_ble_eq_true rfl) ?_
  show zA E zNN (0, 0) mX7_await 0 [(0, .inr (.inr 1)), (1, .inl l1)] [] M (zQ Q)
  refine zr_aload_n (pc' := 1) (i := 0) dX7_await_0 rfl rfl rfl ?_
  refine zr_get (pc' := 4) dX7_await_1 rfl ps_1 kd_1 fl_X7_107 kc_7 (gv_1_7 _) ?_
  refine zr_bipush (pc' := 6) dX7_await_4 rfl rfl ?_
  refine zr_icmp_ge (tgt := 29) (pc' := 9) dX7_await_6 rfl rfl h.1 (zRd rfl) (fun hc => ?_) (fun hc => ?_)
  · have h := h.2.1 hc
    exact zr_return (x := 0) dX7_await_29 rfl (Nat.le_refl _) (Nat.le_refl _) (And.intro rfl h)
  · have h := h.2.2 hc
    refine zr_aload_n (pc' := 10) (i := 0) dX7_await_9 rfl rfl rfl ?_
    refine zr_get (pc' := 13) dX7_await_10 rfl ps_1 kd_1 fl_X7_24 kc_7 (gv_1_6 _) ?_
    refine zr_aload_n (pc' := 14) (i := 0) dX7_await_13 rfl rfl rfl ?_
    refine zr_get (pc' := 17) dX7_await_14 rfl ps_1 kd_1 fl_X7_107 kc_7 (gv_1_7 _) ?_
    refine zr_iload_n (pc' := 18) (i := 1) dX7_await_17 rfl rfl rfl ?_
    refine zr_iast (pc' := 19) dX7_await_18 rfl ps_4 kd_4 (by decide) h.1.1 h.1.2 (fun M1 hM1 => ?_)
    have h := h.2 M1 hM1
    refine zr_aload_n (pc' := 20) (i := 0) dX7_await_19 rfl rfl rfl ?_
    refine zr_dup (pc' := 21) dX7_await_20 rfl rfl ?_
    refine zr_get (pc' := 24) dX7_await_21 rfl ps_1 kd_1 fl_X7_107 kc_7 (gv_1_7 _) ?_
    refine zr_iconst (pc' := 25) dX7_await_24 rfl ?_
    refine zr_iadd (pc' := 26) dX7_await_25 rfl ?_
    refine zr_put (pc' := 29) dX7_await_26 rfl ps_1 kd_1 fl_X7_107 kc_7 rfl nf_1_7 rfl trivial (fun M2 hM1 => ?_)
    have h := h M2 hM1
    exact zr_return (x := 0) dX7_await_29 rfl (Nat.le_refl _) (Nat.le_refl _) (And.intro rfl h)
set_option maxRecDepth 20000 in
theorem vcX7_settle {E : zE} {M : zM} {Q : Int → zM → Prop} (l1 l2 : Int) (hi1 : zIs_6 l1) (I0 : Nat → Int → zM → Prop)
    (h : ((zR (M 1 7)) ∧ (((M 1 7) ≤ 0 → Q 0 M) ∧ (0 < (M 1 7) → (0 ≤ (M 1 7) - 1 ∧ (M 1 7) - 1 < 72) ∧ (zP E mX7_strength [.inl (M 4 (((M 1 7) - 1).toNat))] M (fun r1 M2 => ((zR r1 ∧ zR l2) ∧ ((r1 < l2 → Q 0 M2) ∧ (l2 ≤ r1 → (∀ M3, M3 = zup M2 1 7 ((M2 1 7) - 1) → (0 ≤ M3 1 7 ∧ M3 1 7 < 72) ∧ (zP E mX6_write [.inr (.inr l1), .inl (M3 4 ((M3 1 7).toNat)), .inl 0, .inl 0] M3 (fun r4 M5 => ∃ n', I0 n' l2 M5))))))))))))
    (h0 : ∀ (n : Nat) (l2 : Int) (M : zM), I0 n l2 M → ((zR (M 1 7)) ∧ (((M 1 7) ≤ 0 → Q 0 M) ∧ (0 < (M 1 7) → (0 ≤ (M 1 7) - 1 ∧ (M 1 7) - 1 < 72) ∧ (zP E mX7_strength [.inl (M 4 (((M 1 7) - 1).toNat))] M (fun r6 M7 => ((zR r6 ∧ zR l2) ∧ ((r6 < l2 → Q 0 M7) ∧ (l2 ≤ r6 → (∀ M8, M8 = zup M7 1 7 ((M7 1 7) - 1) → (0 ≤ M8 1 7 ∧ M8 1 7 < 72) ∧ (zP E mX6_write [.inr (.inr l1), .inl (M8 4 ((M8 1 7).toNat)), .inl 0, .inl 0] M8 (fun r9 M10 => ∃ n', n' < n ∧ I0 n' l2 M10))))))))))))
    : zP E mX7_settle [.inr (.inr 1), .inr (.inr l1), .inl l2] M Q := by
  have key : ∀ n : Nat, (∀ (l2 : Int) (M : zM), I0 n l2 M → zA E zNN (0, 0) mX7_settle 0 [(0, .inr (.inr 1)), (1, .inr (.inr l1)), (2, .inl l2)] [] M (zQ Q)) := by
    intro n
    induction n using Nat.strongRecOn with
    | ind n ih =>
      intro l2 M h
      have h := h0 n l2 M h
      refine zr_aload_n (pc' := 1) (i := 0) dX7_settle_0 rfl rfl rfl ?_
      refine zr_get (pc' := 4) dX7_settle_1 rfl ps_1 kd_1 fl_X7_107 kc_7 (gv_1_7 _) ?_
      refine zr_if_le (tgt := 53) (pc' := 7) dX7_settle_4 rfl rfl h.1 (fun hc => ?_) (fun hc => ?_)
      · have h := h.2.1 hc
        exact zr_return (x := 0) dX7_settle_53 rfl (Nat.le_refl _) (Nat.le_refl _) (And.intro rfl h)
      · have h := h.2.2 hc
        refine zr_aload_n (pc' := 8) (i := 0) dX7_settle_7 rfl rfl rfl ?_
        refine zr_get (pc' := 11) dX7_settle_8 rfl ps_1 kd_1 fl_X7_24 kc_7 (gv_1_6 _) ?_
        refine zr_aload_n (pc' := 12) (i := 0) dX7_settle_11 rfl rfl rfl ?_
        refine zr_get (pc' := 15) dX7_settle_12 rfl ps_1 kd_1 fl_X7_107 kc_7 (gv_1_7 _) ?_
        refine zr_iconst (pc' := 16) dX7_settle_15 rfl ?_
        refine zr_isub (pc' := 17) dX7_settle_16 rfl ?_
        refine zr_iald (pc' := 18) dX7_settle_17 rfl ps_4 kd_4 (by decide) h.1.1 h.1.2 ?_
        have h := h.2
        refine zn_callS (pc' := 21) (args := [.inl (M 4 (((M 1 7) - 1).toNat))]) (st := []) (st' := fun r6 => [.inl r6]) dX7_settle_18 rfl cs_X7_149 ⟨rfl, rfl, by decide, by decide⟩ rfl rfl rfl (Nat.le_of_ble_eq_true rfl) (fun _ => rfl) h ?_
        intro r6 M7 h
        refine zr_iload_n (pc' := 22) (i := 2) dX7_settle_21 rfl rfl rfl ?_
        refine zr_icmp_lt (tgt := 53) (pc' := 25) dX7_settle_22 rfl rfl h.1.1 h.1.2 (fun hc => ?_) (fun hc => ?_)
        · have h := h.2.1 hc
          exact zr_return (x := 0) dX7_settle_53 rfl (Nat.le_refl _) (Nat.le_refl _) (And.intro rfl h)
        · have h := h.2.2 hc
          refine zr_aload_n (pc' := 26) (i := 0) dX7_settle_25 rfl rfl rfl ?_
          refine zr_dup (pc' := 27) dX7_settle_26 rfl rfl ?_
          refine zr_get (pc' := 30) dX7_settle_27 rfl ps_1 kd_1 fl_X7_107 kc_7 (gv_1_7 _) ?_
          refine zr_iconst (pc' := 31) dX7_settle_30 rfl ?_
          refine zr_isub (pc' := 32) dX7_settle_31 rfl ?_
          refine zr_put (pc' := 35) dX7_settle_32 rfl ps_1 kd_1 fl_X7_107 kc_7 rfl nf_1_7 rfl trivial (fun M8 hM1 => ?_)
          have h := h M8 hM1
          refine zr_aload_n (pc' := 36) (i := 1) dX7_settle_35 rfl rfl rfl ?_
          refine zr_aload_n (pc' := 37) (i := 0) dX7_settle_36 rfl rfl rfl ?_
          refine zr_get (pc' := 40) dX7_settle_37 rfl ps_1 kd_1 fl_X7_24 kc_7 (gv_1_6 _) ?_
          refine zr_aload_n (pc' := 41) (i := 0) dX7_settle_40 rfl rfl rfl ?_
          refine zr_get (pc' := 44) dX7_settle_41 rfl ps_1 kd_1 fl_X7_107 kc_7 (gv_1_7 _) ?_
          refine zr_iald (pc' := 45) dX7_settle_44 rfl ps_4 kd_4 (by decide) h.1.1 h.1.2 ?_
          have h := h.2
          refine zr_iconst (pc' := 46) dX7_settle_45 rfl ?_
          refine zr_iconst (pc' := 47) dX7_settle_46 rfl ?_
          refine zn_callV (pc' := 50) (args := [.inl (M8 4 ((M8 1 7).toNat)), .inl 0, .inl 0]) (st := []) (st' := fun _ => []) dX7_settle_47 rfl cv_X7_131 ⟨rfl, rfl, by decide, by decide⟩ rfl (is_6_pos hi1) (is_6_kd hi1) rfl rfl (Nat.le_of_ble_eq_true rfl) (fun _ => rfl) h ?_
          intro r9 M10 h
          refine zr_goto (pc' := 0) dX7_settle_50 rfl ?_
          obtain ⟨n', hn, h⟩ := h
          exact zn_al ((ih n' hn) _ _ h) ⟨rfl, rfl, rfl, trivial⟩
  refine zP_of (by decide +kernel) rfl (Nat.le_of_ble_eq_true rfl) ?_
  show zA E zNN (0, 0) mX7_settle 0 [(0, .inr (.inr 1)), (1, .inr (.inr l1)), (2, .inl l2)] [] M (zQ Q)
  refine zr_aload_n (pc' := 1) (i := 0) dX7_settle_0 rfl rfl rfl ?_
  refine zr_get (pc' := 4) dX7_settle_1 rfl ps_1 kd_1 fl_X7_107 kc_7 (gv_1_7 _) ?_
  refine zr_if_le (tgt := 53) (pc' := 7) dX7_settle_4 rfl rfl h.1 (fun hc => ?_) (fun hc => ?_)
  · have h := h.2.1 hc
    exact zr_return (x := 0) dX7_settle_53 rfl (Nat.le_refl _) (Nat.le_refl _) (And.intro rfl h)
  · have h := h.2.2 hc
    refine zr_aload_n (pc' := 8) (i := 0) dX7_settle_7 rfl rfl rfl ?_
    refine zr_get (pc' := 11) dX7_settle_8 rfl ps_1 kd_1 fl_X7_24 kc_7 (gv_1_6 _) ?_
    refine zr_aload_n (pc' := 12) (i := 0) dX7_settle_11 rfl rfl rfl ?_
    refine zr_get (pc' := 15) dX7_settle_12 rfl ps_1 kd_1 fl_X7_107 kc_7 (gv_1_7 _) ?_
    refine zr_iconst (pc' := 16) dX7_settle_15 rfl ?_
    refine zr_isub (pc' := 17) dX7_settle_16 rfl ?_
    refine zr_iald (pc' := 18) dX7_settle_17 rfl ps_4 kd_4 (by decide) h.1.1 h.1.2 ?_
    have h := h.2
    refine zn_callS (pc' := 21) (args := [.inl (M 4 (((M 1 7) - 1).toNat))]) (st := []) (st' := fun r1 => [.inl r1]) dX7_settle_18 rfl cs_X7_149 ⟨rfl, rfl, by decide, by decide⟩ rfl rfl rfl (Nat.le_of_ble_eq_true rfl) (fun _ => rfl) h ?_
    intro r1 M2 h
    refine zr_iload_n (pc' := 22) (i := 2) dX7_settle_21 rfl rfl rfl ?_
    refine zr_icmp_lt (tgt := 53) (pc' := 25) dX7_settle_22 rfl rfl h.1.1 h.1.2 (fun hc => ?_) (fun hc => ?_)
    · have h := h.2.1 hc
      exact zr_return (x := 0) dX7_settle_53 rfl (Nat.le_refl _) (Nat.le_refl _) (And.intro rfl h)
    · have h := h.2.2 hc
      refine zr_aload_n (pc' := 26) (i := 0) dX7_settle_25 rfl rfl rfl ?_
      refine zr_dup (pc' := 27) dX7_settle_26 rfl rfl ?_
      refine zr_get (pc' := 30) dX7_settle_27 rfl ps_1 kd_1 fl_X7_107 kc_7 (gv_1_7 _) ?_
      refine zr_iconst (pc' := 31) dX7_settle_30 rfl ?_
      refine zr_isub (pc' := 32) dX7_settle_31 rfl ?_
      refine zr_put (pc' := 35) dX7_settle_32 rfl ps_1 kd_1 fl_X7_107 kc_7 rfl nf_1_7 rfl trivial (fun M3 hM1 => ?_)
      have h := h M3 hM1
      refine zr_aload_n (pc' := 36) (i := 1) dX7_settle_35 rfl rfl rfl ?_
      refine zr_aload_n (pc' := 37) (i := 0) dX7_settle_36 rfl rfl rfl ?_
      refine zr_get (pc' := 40) dX7_settle_37 rfl ps_1 kd_1 fl_X7_24 kc_7 (gv_1_6 _) ?_
      refine zr_aload_n (pc' := 41) (i := 0) dX7_settle_40 rfl rfl rfl ?_
      refine zr_get (pc' := 44) dX7_settle_41 rfl ps_1 kd_1 fl_X7_107 kc_7 (gv_1_7 _) ?_
      refine zr_iald (pc' := 45) dX7_settle_44 rfl ps_4 kd_4 (by decide) h.1.1 h.1.2 ?_
      have h := h.2
      refine zr_iconst (pc' := 46) dX7_settle_45 rfl ?_
      refine zr_iconst (pc' := 47) dX7_settle_46 rfl ?_
      refine zn_callV (pc' := 50) (args := [.inl (M3 4 ((M3 1 7).toNat)), .inl 0, .inl 0]) (st := []) (st' := fun _ => []) dX7_settle_47 rfl cv_X7_131 ⟨rfl, rfl, by decide, by decide⟩ rfl (is_6_pos hi1) (is_6_kd hi1) rfl rfl (Nat.le_of_ble_eq_true rfl) (fun _ => rfl) h ?_
      intro r4 M5 h
      refine zr_goto (pc' := 0) dX7_settle_50 rfl ?_
      obtain ⟨n', h⟩ := h
      exact zn_al ((key n') _ _ h) ⟨rfl, rfl, rfl, trivial⟩
set_option maxRecDepth 20000 in
theorem vcX7_strength {E : zE} {M : zM} {Q : Int → zM → Prop} (l0 : Int)
    (h : (zR l0 ∧ ((l0 < 2 ∨ 31 < l0) → Q 4 M) ∧ (l0 = 2 → Q 1 M) ∧ (l0 = 3 → Q 2 M) ∧ (l0 = 4 → Q 3 M) ∧ (l0 = 5 → Q 4 M) ∧ (l0 = 6 → Q 4 M) ∧ (l0 = 7 → Q 4 M) ∧ (l0 = 8 → Q 4 M) ∧ (l0 = 9 → Q 4 M) ∧ (l0 = 10 → Q 4 M) ∧ (l0 = 11 → Q 4 M) ∧ (l0 = 12 → Q 4 M) ∧ (l0 = 13 → Q 4 M) ∧ (l0 = 14 → Q 4 M) ∧ (l0 = 15 → Q 4 M) ∧ (l0 = 16 → Q 4 M) ∧ (l0 = 17 → Q 4 M) ∧ (l0 = 18 → Q 0 M) ∧ (l0 = 19 → Q 4 M) ∧ (l0 = 20 → Q 4 M) ∧ (l0 = 21 → Q 5 M) ∧ (l0 = 22 → Q 5 M) ∧ (l0 = 23 → Q 6 M) ∧ (l0 = 24 → Q 6 M) ∧ (l0 = 25 → Q 4 M) ∧ (l0 = 26 → Q 4 M) ∧ (l0 = 27 → Q 4 M) ∧ (l0 = 28 → Q 4 M) ∧ (l0 = 29 → Q 4 M) ∧ (l0 = 30 → Q 4 M) ∧ (l0 = 31 → Q 7 M)))
    : zP E mX7_strength [.inl l0] M Q := by
  refine zP_of (by decide +kernel) rfl (Nat.le_of_ble_eq_true rfl) ?_
  show zA E zNN (0, 0) mX7_strength 0 [(0, .inl l0)] [] M (zQ Q)
  refine zr_iload_n (pc' := 1) (i := 0) dX7_strength_0 rfl rfl rfl ?_
  by_cases hsw : l0 < 2 ∨ 31 < l0
  · refine zr_tableOut (tgt := 152) dX7_strength_1 h.1 hsw rfl ?_
    have h := h.2.1 hsw
    refine zr_iconst (pc' := 153) dX7_strength_152 rfl ?_
    exact zr_ireturn dX7_strength_153 rfl rfl trivial (Nat.le_refl _) (Nat.le_refl _) (And.intro rfl h)
  · have hsx : l0 = 2 ∨ l0 = 3 ∨ l0 = 4 ∨ l0 = 5 ∨ l0 = 6 ∨ l0 = 7 ∨ l0 = 8 ∨ l0 = 9 ∨ l0 = 10 ∨ l0 = 11 ∨ l0 = 12 ∨ l0 = 13 ∨ l0 = 14 ∨ l0 = 15 ∨ l0 = 16 ∨ l0 = 17 ∨ l0 = 18 ∨ l0 = 19 ∨ l0 = 20 ∨ l0 = 21 ∨ l0 = 22 ∨ l0 = 23 ∨ l0 = 24 ∨ l0 = 25 ∨ l0 = 26 ∨ l0 = 27 ∨ l0 = 28 ∨ l0 = 29 ∨ l0 = 30 ∨ l0 = 31 := by omega
    rcases hsx with hsx | hsx | hsx | hsx | hsx | hsx | hsx | hsx | hsx | hsx | hsx | hsx | hsx | hsx | hsx | hsx | hsx | hsx | hsx | hsx | hsx | hsx | hsx | hsx | hsx | hsx | hsx | hsx | hsx | hsx
    · refine zr_tableIn (off := 137) (tgt := 138) dX7_strength_1 h.1 (by omega) (by omega) (by rw [hsx]; rfl) rfl ?_
      have h := h.2.2.1 hsx
      refine zr_iconst (pc' := 139) dX7_strength_138 rfl ?_
      exact zr_ireturn dX7_strength_139 rfl rfl trivial (Nat.le_refl _) (Nat.le_refl _) (And.intro rfl h)
    · refine zr_tableIn (off := 139) (tgt := 140) dX7_strength_1 h.1 (by omega) (by omega) (by rw [hsx]; rfl) rfl ?_
      have h := h.2.2.2.1 hsx
      refine zr_iconst (pc' := 141) dX7_strength_140 rfl ?_
      exact zr_ireturn dX7_strength_141 rfl rfl trivial (Nat.le_refl _) (Nat.le_refl _) (And.intro rfl h)
    · refine zr_tableIn (off := 141) (tgt := 142) dX7_strength_1 h.1 (by omega) (by omega) (by rw [hsx]; rfl) rfl ?_
      have h := h.2.2.2.2.1 hsx
      refine zr_iconst (pc' := 143) dX7_strength_142 rfl ?_
      exact zr_ireturn dX7_strength_143 rfl rfl trivial (Nat.le_refl _) (Nat.le_refl _) (And.intro rfl h)
    · refine zr_tableIn (off := 151) (tgt := 152) dX7_strength_1 h.1 (by omega) (by omega) (by rw [hsx]; rfl) rfl ?_
      have h := h.2.2.2.2.2.1 hsx
      refine zr_iconst (pc' := 153) dX7_strength_152 rfl ?_
      exact zr_ireturn dX7_strength_153 rfl rfl trivial (Nat.le_refl _) (Nat.le_refl _) (And.intro rfl h)
    · refine zr_tableIn (off := 151) (tgt := 152) dX7_strength_1 h.1 (by omega) (by omega) (by rw [hsx]; rfl) rfl ?_
      have h := h.2.2.2.2.2.2.1 hsx
      refine zr_iconst (pc' := 153) dX7_strength_152 rfl ?_
      exact zr_ireturn dX7_strength_153 rfl rfl trivial (Nat.le_refl _) (Nat.le_refl _) (And.intro rfl h)
    · refine zr_tableIn (off := 151) (tgt := 152) dX7_strength_1 h.1 (by omega) (by omega) (by rw [hsx]; rfl) rfl ?_
      have h := h.2.2.2.2.2.2.2.1 hsx
      refine zr_iconst (pc' := 153) dX7_strength_152 rfl ?_
      exact zr_ireturn dX7_strength_153 rfl rfl trivial (Nat.le_refl _) (Nat.le_refl _) (And.intro rfl h)
    · refine zr_tableIn (off := 151) (tgt := 152) dX7_strength_1 h.1 (by omega) (by omega) (by rw [hsx]; rfl) rfl ?_
      have h := h.2.2.2.2.2.2.2.2.1 hsx
      refine zr_iconst (pc' := 153) dX7_strength_152 rfl ?_
      exact zr_ireturn dX7_strength_153 rfl rfl trivial (Nat.le_refl _) (Nat.le_refl _) (And.intro rfl h)
    · refine zr_tableIn (off := 151) (tgt := 152) dX7_strength_1 h.1 (by omega) (by omega) (by rw [hsx]; rfl) rfl ?_
      have h := h.2.2.2.2.2.2.2.2.2.1 hsx
      refine zr_iconst (pc' := 153) dX7_strength_152 rfl ?_
      exact zr_ireturn dX7_strength_153 rfl rfl trivial (Nat.le_refl _) (Nat.le_refl _) (And.intro rfl h)
    · refine zr_tableIn (off := 151) (tgt := 152) dX7_strength_1 h.1 (by omega) (by omega) (by rw [hsx]; rfl) rfl ?_
      have h := h.2.2.2.2.2.2.2.2.2.2.1 hsx
      refine zr_iconst (pc' := 153) dX7_strength_152 rfl ?_
      exact zr_ireturn dX7_strength_153 rfl rfl trivial (Nat.le_refl _) (Nat.le_refl _) (And.intro rfl h)
    · refine zr_tableIn (off := 151) (tgt := 152) dX7_strength_1 h.1 (by omega) (by omega) (by rw [hsx]; rfl) rfl ?_
      have h := h.2.2.2.2.2.2.2.2.2.2.2.1 hsx
      refine zr_iconst (pc' := 153) dX7_strength_152 rfl ?_
      exact zr_ireturn dX7_strength_153 rfl rfl trivial (Nat.le_refl _) (Nat.le_refl _) (And.intro rfl h)
    · refine zr_tableIn (off := 151) (tgt := 152) dX7_strength_1 h.1 (by omega) (by omega) (by rw [hsx]; rfl) rfl ?_
      have h := h.2.2.2.2.2.2.2.2.2.2.2.2.1 hsx
      refine zr_iconst (pc' := 153) dX7_strength_152 rfl ?_
      exact zr_ireturn dX7_strength_153 rfl rfl trivial (Nat.le_refl _) (Nat.le_refl _) (And.intro rfl h)
    · refine zr_tableIn (off := 151) (tgt := 152) dX7_strength_1 h.1 (by omega) (by omega) (by rw [hsx]; rfl) rfl ?_
      have h := h.2.2.2.2.2.2.2.2.2.2.2.2.2.1 hsx
      refine zr_iconst (pc' := 153) dX7_strength_152 rfl ?_
      exact zr_ireturn dX7_strength_153 rfl rfl trivial (Nat.le_refl _) (Nat.le_refl _) (And.intro rfl h)
    · refine zr_tableIn (off := 151) (tgt := 152) dX7_strength_1 h.1 (by omega) (by omega) (by rw [hsx]; rfl) rfl ?_
      have h := h.2.2.2.2.2.2.2.2.2.2.2.2.2.2.1 hsx
      refine zr_iconst (pc' := 153) dX7_strength_152 rfl ?_
      exact zr_ireturn dX7_strength_153 rfl rfl trivial (Nat.le_refl _) (Nat.le_refl _) (And.intro rfl h)
    · refine zr_tableIn (off := 151) (tgt := 152) dX7_strength_1 h.1 (by omega) (by omega) (by rw [hsx]; rfl) rfl ?_
      have h := h.2.2.2.2.2.2.2.2.2.2.2.2.2.2.2.1 hsx
      refine zr_iconst (pc' := 153) dX7_strength_152 rfl ?_
      exact zr_ireturn dX7_strength_153 rfl rfl trivial (Nat.le_refl _) (Nat.le_refl _) (And.intro rfl h)
    · refine zr_tableIn (off := 151) (tgt := 152) dX7_strength_1 h.1 (by omega) (by omega) (by rw [hsx]; rfl) rfl ?_
      have h := h.2.2.2.2.2.2.2.2.2.2.2.2.2.2.2.2.1 hsx
      refine zr_iconst (pc' := 153) dX7_strength_152 rfl ?_
      exact zr_ireturn dX7_strength_153 rfl rfl trivial (Nat.le_refl _) (Nat.le_refl _) (And.intro rfl h)
    · refine zr_tableIn (off := 151) (tgt := 152) dX7_strength_1 h.1 (by omega) (by omega) (by rw [hsx]; rfl) rfl ?_
      have h := h.2.2.2.2.2.2.2.2.2.2.2.2.2.2.2.2.2.1 hsx
      refine zr_iconst (pc' := 153) dX7_strength_152 rfl ?_
      exact zr_ireturn dX7_strength_153 rfl rfl trivial (Nat.le_refl _) (Nat.le_refl _) (And.intro rfl h)
    · refine zr_tableIn (off := 135) (tgt := 136) dX7_strength_1 h.1 (by omega) (by omega) (by rw [hsx]; rfl) rfl ?_
      have h := h.2.2.2.2.2.2.2.2.2.2.2.2.2.2.2.2.2.2.1 hsx
      refine zr_iconst (pc' := 137) dX7_strength_136 rfl ?_
      exact zr_ireturn dX7_strength_137 rfl rfl trivial (Nat.le_refl _) (Nat.le_refl _) (And.intro rfl h)
    · refine zr_tableIn (off := 151) (tgt := 152) dX7_strength_1 h.1 (by omega) (by omega) (by rw [hsx]; rfl) rfl ?_
      have h := h.2.2.2.2.2.2.2.2.2.2.2.2.2.2.2.2.2.2.2.1 hsx
      refine zr_iconst (pc' := 153) dX7_strength_152 rfl ?_
      exact zr_ireturn dX7_strength_153 rfl rfl trivial (Nat.le_refl _) (Nat.le_refl _) (And.intro rfl h)
    · refine zr_tableIn (off := 151) (tgt := 152) dX7_strength_1 h.1 (by omega) (by omega) (by rw [hsx]; rfl) rfl ?_
      have h := h.2.2.2.2.2.2.2.2.2.2.2.2.2.2.2.2.2.2.2.2.1 hsx
      refine zr_iconst (pc' := 153) dX7_strength_152 rfl ?_
      exact zr_ireturn dX7_strength_153 rfl rfl trivial (Nat.le_refl _) (Nat.le_refl _) (And.intro rfl h)
    · refine zr_tableIn (off := 143) (tgt := 144) dX7_strength_1 h.1 (by omega) (by omega) (by rw [hsx]; rfl) rfl ?_
      have h := h.2.2.2.2.2.2.2.2.2.2.2.2.2.2.2.2.2.2.2.2.2.1 hsx
      refine zr_iconst (pc' := 145) dX7_strength_144 rfl ?_
      exact zr_ireturn dX7_strength_145 rfl rfl trivial (Nat.le_refl _) (Nat.le_refl _) (And.intro rfl h)
    · refine zr_tableIn (off := 143) (tgt := 144) dX7_strength_1 h.1 (by omega) (by omega) (by rw [hsx]; rfl) rfl ?_
      have h := h.2.2.2.2.2.2.2.2.2.2.2.2.2.2.2.2.2.2.2.2.2.2.1 hsx
      refine zr_iconst (pc' := 145) dX7_strength_144 rfl ?_
      exact zr_ireturn dX7_strength_145 rfl rfl trivial (Nat.le_refl _) (Nat.le_refl _) (And.intro rfl h)
    · refine zr_tableIn (off := 145) (tgt := 146) dX7_strength_1 h.1 (by omega) (by omega) (by rw [hsx]; rfl) rfl ?_
      have h := h.2.2.2.2.2.2.2.2.2.2.2.2.2.2.2.2.2.2.2.2.2.2.2.1 hsx
      refine zr_bipush (pc' := 148) dX7_strength_146 rfl rfl ?_
      exact zr_ireturn dX7_strength_148 rfl rfl trivial (Nat.le_refl _) (Nat.le_refl _) (And.intro rfl h)
    · refine zr_tableIn (off := 145) (tgt := 146) dX7_strength_1 h.1 (by omega) (by omega) (by rw [hsx]; rfl) rfl ?_
      have h := h.2.2.2.2.2.2.2.2.2.2.2.2.2.2.2.2.2.2.2.2.2.2.2.2.1 hsx
      refine zr_bipush (pc' := 148) dX7_strength_146 rfl rfl ?_
      exact zr_ireturn dX7_strength_148 rfl rfl trivial (Nat.le_refl _) (Nat.le_refl _) (And.intro rfl h)
    · refine zr_tableIn (off := 151) (tgt := 152) dX7_strength_1 h.1 (by omega) (by omega) (by rw [hsx]; rfl) rfl ?_
      have h := h.2.2.2.2.2.2.2.2.2.2.2.2.2.2.2.2.2.2.2.2.2.2.2.2.2.1 hsx
      refine zr_iconst (pc' := 153) dX7_strength_152 rfl ?_
      exact zr_ireturn dX7_strength_153 rfl rfl trivial (Nat.le_refl _) (Nat.le_refl _) (And.intro rfl h)
    · refine zr_tableIn (off := 151) (tgt := 152) dX7_strength_1 h.1 (by omega) (by omega) (by rw [hsx]; rfl) rfl ?_
      have h := h.2.2.2.2.2.2.2.2.2.2.2.2.2.2.2.2.2.2.2.2.2.2.2.2.2.2.1 hsx
      refine zr_iconst (pc' := 153) dX7_strength_152 rfl ?_
      exact zr_ireturn dX7_strength_153 rfl rfl trivial (Nat.le_refl _) (Nat.le_refl _) (And.intro rfl h)
    · refine zr_tableIn (off := 151) (tgt := 152) dX7_strength_1 h.1 (by omega) (by omega) (by rw [hsx]; rfl) rfl ?_
      have h := h.2.2.2.2.2.2.2.2.2.2.2.2.2.2.2.2.2.2.2.2.2.2.2.2.2.2.2.1 hsx
      refine zr_iconst (pc' := 153) dX7_strength_152 rfl ?_
      exact zr_ireturn dX7_strength_153 rfl rfl trivial (Nat.le_refl _) (Nat.le_refl _) (And.intro rfl h)
    · refine zr_tableIn (off := 151) (tgt := 152) dX7_strength_1 h.1 (by omega) (by omega) (by rw [hsx]; rfl) rfl ?_
      have h := h.2.2.2.2.2.2.2.2.2.2.2.2.2.2.2.2.2.2.2.2.2.2.2.2.2.2.2.2.1 hsx
      refine zr_iconst (pc' := 153) dX7_strength_152 rfl ?_
      exact zr_ireturn dX7_strength_153 rfl rfl trivial (Nat.le_refl _) (Nat.le_refl _) (And.intro rfl h)
    · refine zr_tableIn (off := 151) (tgt := 152) dX7_strength_1 h.1 (by omega) (by omega) (by rw [hsx]; rfl) rfl ?_
      have h := h.2.2.2.2.2.2.2.2.2.2.2.2.2.2.2.2.2.2.2.2.2.2.2.2.2.2.2.2.2.1 hsx
      refine zr_iconst (pc' := 153) dX7_strength_152 rfl ?_
      exact zr_ireturn dX7_strength_153 rfl rfl trivial (Nat.le_refl _) (Nat.le_refl _) (And.intro rfl h)
    · refine zr_tableIn (off := 151) (tgt := 152) dX7_strength_1 h.1 (by omega) (by omega) (by rw [hsx]; rfl) rfl ?_
      have h := h.2.2.2.2.2.2.2.2.2.2.2.2.2.2.2.2.2.2.2.2.2.2.2.2.2.2.2.2.2.2.1 hsx
      refine zr_iconst (pc' := 153) dX7_strength_152 rfl ?_
      exact zr_ireturn dX7_strength_153 rfl rfl trivial (Nat.le_refl _) (Nat.le_refl _) (And.intro rfl h)
    · refine zr_tableIn (off := 148) (tgt := 149) dX7_strength_1 h.1 (by omega) (by omega) (by rw [hsx]; rfl) rfl ?_
      have h := h.2.2.2.2.2.2.2.2.2.2.2.2.2.2.2.2.2.2.2.2.2.2.2.2.2.2.2.2.2.2.2 hsx
      refine zr_bipush (pc' := 151) dX7_strength_149 rfl rfl ?_
      exact zr_ireturn dX7_strength_151 rfl rfl trivial (Nat.le_refl _) (Nat.le_refl _) (And.intro rfl h)
set_option maxRecDepth 20000 in
theorem vcX8_clear {E : zE} {M : zM} {Q : Int → zM → Prop}
    (h : (∀ M1, M1 = zup M 26 0 0 → (∀ M2, M2 = zup M1 26 1 0 → (∀ M3, M3 = zup M2 26 2 0 → Q 0 M3))))
    : zP E mX8_clear [.inr (.inr 26)] M Q := by
  refine zP_of (by decide +kernel) rfl (Nat.le_of_ble_eq_true rfl) ?_
  show zA E zNN (0, 0) mX8_clear 0 [(0, .inr (.inr 26))] [] M (zQ Q)
  refine zr_aload_n (pc' := 1) (i := 0) dX8_clear_0 rfl rfl rfl ?_
  refine zr_iconst (pc' := 2) dX8_clear_1 rfl ?_
  refine zr_put (pc' := 5) dX8_clear_2 rfl ps_26 kd_26 fl_X8_7 kc_8 rfl nf_26_0 rfl trivial (fun M1 hM1 => ?_)
  have h := h M1 hM1
  refine zr_aload_n (pc' := 6) (i := 0) dX8_clear_5 rfl rfl rfl ?_
  refine zr_iconst (pc' := 7) dX8_clear_6 rfl ?_
  refine zr_put (pc' := 10) dX8_clear_7 rfl ps_26 kd_26 fl_X8_13 kc_8 rfl nf_26_1 rfl trivial (fun M2 hM1 => ?_)
  have h := h M2 hM1
  refine zr_aload_n (pc' := 11) (i := 0) dX8_clear_10 rfl rfl rfl ?_
  refine zr_iconst (pc' := 12) dX8_clear_11 rfl ?_
  refine zr_put (pc' := 15) dX8_clear_12 rfl ps_26 kd_26 fl_X8_16 kc_8 rfl nf_26_2 rfl trivial (fun M3 hM1 => ?_)
  have h := h M3 hM1
  exact zr_return (x := 0) dX8_clear_15 rfl (Nat.le_refl _) (Nat.le_refl _) (And.intro rfl h)
set_option maxRecDepth 20000 in
theorem vcX8_add {E : zE} {M : zM} {Q : Int → zM → Prop} (l1 l2 : Int)
    (h : ((zR l2) ∧ ((¬ l2 = (-10000) → ((zR (M 26 1)) ∧ ((¬ (M 26 1) = 0 → ((zR l2 ∧ zR (M 26 3)) ∧ ((l2 ≤ (M 26 3) → (∀ M1, M1 = zup M 26 3 (M 26 3) → ((zR l2 ∧ zR (M1 26 4)) ∧ (((M1 26 4) ≤ l2 → (∀ M2, M2 = zup M1 26 4 (M1 26 4) → ((zR l1 ∧ zR (M2 26 5)) ∧ ((l1 < (M2 26 5) → (∀ M3, M3 = zup M2 26 5 l1 → (∀ M4, M4 = zup M3 26 6 l2 → ((zR l1 ∧ zR (M4 26 7)) ∧ (((M4 26 7) < l1 → (∀ M5, M5 = zup M4 26 7 l1 → (∀ M6, M6 = zup M5 26 8 l2 → (∀ M7, M7 = zup M6 26 0 ((M6 26 0) + l2) → (∀ M8, M8 = zup M7 26 1 ((M7 26 1) + 1) → Q 0 M8))))) ∧ (l1 ≤ (M4 26 7) → ((zR l1 ∧ zR (M4 26 7)) ∧ ((¬ l1 = (M4 26 7) → (∀ M9, M9 = zup M4 26 0 ((M4 26 0) + l2) → (∀ M10, M10 = zup M9 26 1 ((M9 26 1) + 1) → Q 0 M10))) ∧ (l1 = (M4 26 7) → ((zR l2 ∧ zR (M4 26 8)) ∧ ((l2 ≤ (M4 26 8) → (∀ M11, M11 = zup M4 26 0 ((M4 26 0) + l2) → (∀ M12, M12 = zup M11 26 1 ((M11 26 1) + 1) → Q 0 M12))) ∧ ((M4 26 8) < l2 → (∀ M13, M13 = zup M4 26 7 l1 → (∀ M14, M14 = zup M13 26 8 l2 → (∀ M15, M15 = zup M14 26 0 ((M14 26 0) + l2) → (∀ M16, M16 = zup M15 26 1 ((M15 26 1) + 1) → Q 0 M16)))))))))))))))) ∧ ((M2 26 5) ≤ l1 → ((zR l1 ∧ zR (M2 26 5)) ∧ ((¬ l1 = (M2 26 5) → ((zR l1 ∧ zR (M2 26 7)) ∧ (((M2 26 7) < l1 → (∀ M17, M17 = zup M2 26 7 l1 → (∀ M18, M18 = zup M17 26 8 l2 → (∀ M19, M19 = zup M18 26 0 ((M18 26 0) + l2) → (∀ M20, M20 = zup M19 26 1 ((M19 26 1) + 1) → Q 0 M20))))) ∧ (l1 ≤ (M2 26 7) → ((zR l1 ∧ zR (M2 26 7)) ∧ ((¬ l1 = (M2 26 7) → (∀ M21, M21 = zup M2 26 0 ((M2 26 0) + l2) → (∀ M22, M22 = zup M21 26 1 ((M21 26 1) + 1) → Q 0 M22))) ∧ (l1 = (M2 26 7) → ((zR l2 ∧ zR (M2 26 8)) ∧ ((l2 ≤ (M2 26 8) → (∀ M23, M23 = zup M2 26 0 ((M2 26 0) + l2) → (∀ M24, M24 = zup M23 26 1 ((M23 26 1) + 1) → Q 0 M24))) ∧ ((M2 26 8) < l2 → (∀ M25, M25 = zup M2 26 7 l1 → (∀ M26, M26 = zup M25 26 8 l2 → (∀ M27, M27 = zup M26 26 0 ((M26 26 0) + l2) → (∀ M28, M28 = zup M27 26 1 ((M27 26 1) + 1) → Q 0 M28)))))))))))))) ∧ (l1 = (M2 26 5) → ((zR l2 ∧ zR (M2 26 6)) ∧ ((l2 ≤ (M2 26 6) → ((zR l1 ∧ zR (M2 26 7)) ∧ (((M2 26 7) < l1 → (∀ M29, M29 = zup M2 26 7 l1 → (∀ M30, M30 = zup M29 26 8 l2 → (∀ M31, M31 = zup M30 26 0 ((M30 26 0) + l2) → (∀ M32, M32 = zup M31 26 1 ((M31 26 1) + 1) → Q 0 M32))))) ∧ (l1 ≤ (M2 26 7) → ((zR l1 ∧ zR (M2 26 7)) ∧ ((¬ l1 = (M2 26 7) → (∀ M33, M33 = zup M2 26 0 ((M2 26 0) + l2) → (∀ M34, M34 = zup M33 26 1 ((M33 26 1) + 1) → Q 0 M34))) ∧ (l1 = (M2 26 7) → ((zR l2 ∧ zR (M2 26 8)) ∧ ((l2 ≤ (M2 26 8) → (∀ M35, M35 = zup M2 26 0 ((M2 26 0) + l2) → (∀ M36, M36 = zup M35 26 1 ((M35 26 1) + 1) → Q 0 M36))) ∧ ((M2 26 8) < l2 → (∀ M37, M37 = zup M2 26 7 l1 → (∀ M38, M38 = zup M37 26 8 l2 → (∀ M39, M39 = zup M38 26 0 ((M38 26 0) + l2) → (∀ M40, M40 = zup M39 26 1 ((M39 26 1) + 1) → Q 0 M40)))))))))))))) ∧ ((M2 26 6) < l2 → (∀ M41, M41 = zup M2 26 5 l1 → (∀ M42, M42 = zup M41 26 6 l2 → ((zR l1 ∧ zR (M42 26 7)) ∧ (((M42 26 7) < l1 → (∀ M43, M43 = zup M42 26 7 l1 → (∀ M44, M44 = zup M43 26 8 l2 → (∀ M45, M45 = zup M44 26 0 ((M44 26 0) + l2) → (∀ M46, M46 = zup M45 26 1 ((M45 26 1) + 1) → Q 0 M46))))) ∧ (l1 ≤ (M42 26 7) → ((zR l1 ∧ zR (M42 26 7)) ∧ ((¬ l1 = (M42 26 7) → (∀ M47, M47 = zup M42 26 0 ((M42 26 0) + l2) → (∀ M48, M48 = zup M47 26 1 ((M47 26 1) + 1) → Q 0 M48))) ∧ (l1 = (M42 26 7) → ((zR l2 ∧ zR (M42 26 8)) ∧ ((l2 ≤ (M42 26 8) → (∀ M49, M49 = zup M42 26 0 ((M42 26 0) + l2) → (∀ M50, M50 = zup M49 26 1 ((M49 26 1) + 1) → Q 0 M50))) ∧ ((M42 26 8) < l2 → (∀ M51, M51 = zup M42 26 7 l1 → (∀ M52, M52 = zup M51 26 8 l2 → (∀ M53, M53 = zup M52 26 0 ((M52 26 0) + l2) → (∀ M54, M54 = zup M53 26 1 ((M53 26 1) + 1) → Q 0 M54)))))))))))))))))))))))))) ∧ (l2 < (M1 26 4) → (∀ M55, M55 = zup M1 26 4 l2 → ((zR l1 ∧ zR (M55 26 5)) ∧ ((l1 < (M55 26 5) → (∀ M56, M56 = zup M55 26 5 l1 → (∀ M57, M57 = zup M56 26 6 l2 → ((zR l1 ∧ zR (M57 26 7)) ∧ (((M57 26 7) < l1 → (∀ M58, M58 = zup M57 26 7 l1 → (∀ M59, M59 = zup M58 26 8 l2 → (∀ M60, M60 = zup M59 26 0 ((M59 26 0) + l2) → (∀ M61, M61 = zup M60 26 1 ((M60 26 1) + 1) → Q 0 M61))))) ∧ (l1 ≤ (M57 26 7) → ((zR l1 ∧ zR (M57 26 7)) ∧ ((¬ l1 = (M57 26 7) → (∀ M62, M62 = zup M57 26 0 ((M57 26 0) + l2) → (∀ M63, M63 = zup M62 26 1 ((M62 26 1) + 1) → Q 0 M63))) ∧ (l1 = (M57 26 7) → ((zR l2 ∧ zR (M57 26 8)) ∧ ((l2 ≤ (M57 26 8) → (∀ M64, M64 = zup M57 26 0 ((M57 26 0) + l2) → (∀ M65, M65 = zup M64 26 1 ((M64 26 1) + 1) → Q 0 M65))) ∧ ((M57 26 8) < l2 → (∀ M66, M66 = zup M57 26 7 l1 → (∀ M67, M67 = zup M66 26 8 l2 → (∀ M68, M68 = zup M67 26 0 ((M67 26 0) + l2) → (∀ M69, M69 = zup M68 26 1 ((M68 26 1) + 1) → Q 0 M69)))))))))))))))) ∧ ((M55 26 5) ≤ l1 → ((zR l1 ∧ zR (M55 26 5)) ∧ ((¬ l1 = (M55 26 5) → ((zR l1 ∧ zR (M55 26 7)) ∧ (((M55 26 7) < l1 → (∀ M70, M70 = zup M55 26 7 l1 → (∀ M71, M71 = zup M70 26 8 l2 → (∀ M72, M72 = zup M71 26 0 ((M71 26 0) + l2) → (∀ M73, M73 = zup M72 26 1 ((M72 26 1) + 1) → Q 0 M73))))) ∧ (l1 ≤ (M55 26 7) → ((zR l1 ∧ zR (M55 26 7)) ∧ ((¬ l1 = (M55 26 7) → (∀ M74, M74 = zup M55 26 0 ((M55 26 0) + l2) → (∀ M75, M75 = zup M74 26 1 ((M74 26 1) + 1) → Q 0 M75))) ∧ (l1 = (M55 26 7) → ((zR l2 ∧ zR (M55 26 8)) ∧ ((l2 ≤ (M55 26 8) → (∀ M76, M76 = zup M55 26 0 ((M55 26 0) + l2) → (∀ M77, M77 = zup M76 26 1 ((M76 26 1) + 1) → Q 0 M77))) ∧ ((M55 26 8) < l2 → (∀ M78, M78 = zup M55 26 7 l1 → (∀ M79, M79 = zup M78 26 8 l2 → (∀ M80, M80 = zup M79 26 0 ((M79 26 0) + l2) → (∀ M81, M81 = zup M80 26 1 ((M80 26 1) + 1) → Q 0 M81)))))))))))))) ∧ (l1 = (M55 26 5) → ((zR l2 ∧ zR (M55 26 6)) ∧ ((l2 ≤ (M55 26 6) → ((zR l1 ∧ zR (M55 26 7)) ∧ (((M55 26 7) < l1 → (∀ M82, M82 = zup M55 26 7 l1 → (∀ M83, M83 = zup M82 26 8 l2 → (∀ M84, M84 = zup M83 26 0 ((M83 26 0) + l2) → (∀ M85, M85 = zup M84 26 1 ((M84 26 1) + 1) → Q 0 M85))))) ∧ (l1 ≤ (M55 26 7) → ((zR l1 ∧ zR (M55 26 7)) ∧ ((¬ l1 = (M55 26 7) → (∀ M86, M86 = zup M55 26 0 ((M55 26 0) + l2) → (∀ M87, M87 = zup M86 26 1 ((M86 26 1) + 1) → Q 0 M87))) ∧ (l1 = (M55 26 7) → ((zR l2 ∧ zR (M55 26 8)) ∧ ((l2 ≤ (M55 26 8) → (∀ M88, M88 = zup M55 26 0 ((M55 26 0) + l2) → (∀ M89, M89 = zup M88 26 1 ((M88 26 1) + 1) → Q 0 M89))) ∧ ((M55 26 8) < l2 → (∀ M90, M90 = zup M55 26 7 l1 → (∀ M91, M91 = zup M90 26 8 l2 → (∀ M92, M92 = zup M91 26 0 ((M91 26 0) + l2) → (∀ M93, M93 = zup M92 26 1 ((M92 26 1) + 1) → Q 0 M93)))))))))))))) ∧ ((M55 26 6) < l2 → (∀ M94, M94 = zup M55 26 5 l1 → (∀ M95, M95 = zup M94 26 6 l2 → ((zR l1 ∧ zR (M95 26 7)) ∧ (((M95 26 7) < l1 → (∀ M96, M96 = zup M95 26 7 l1 → (∀ M97, M97 = zup M96 26 8 l2 → (∀ M98, M98 = zup M97 26 0 ((M97 26 0) + l2) → (∀ M99, M99 = zup M98 26 1 ((M98 26 1) + 1) → Q 0 M99))))) ∧ (l1 ≤ (M95 26 7) → ((zR l1 ∧ zR (M95 26 7)) ∧ ((¬ l1 = (M95 26 7) → (∀ M100, M100 = zup M95 26 0 ((M95 26 0) + l2) → (∀ M101, M101 = zup M100 26 1 ((M100 26 1) + 1) → Q 0 M101))) ∧ (l1 = (M95 26 7) → ((zR l2 ∧ zR (M95 26 8)) ∧ ((l2 ≤ (M95 26 8) → (∀ M102, M102 = zup M95 26 0 ((M95 26 0) + l2) → (∀ M103, M103 = zup M102 26 1 ((M102 26 1) + 1) → Q 0 M103))) ∧ ((M95 26 8) < l2 → (∀ M104, M104 = zup M95 26 7 l1 → (∀ M105, M105 = zup M104 26 8 l2 → (∀ M106, M106 = zup M105 26 0 ((M105 26 0) + l2) → (∀ M107, M107 = zup M106 26 1 ((M106 26 1) + 1) → Q 0 M107)))))))))))))))))))))))))))))) ∧ ((M 26 3) < l2 → (∀ M108, M108 = zup M 26 3 l2 → ((zR l2 ∧ zR (M108 26 4)) ∧ (((M108 26 4) ≤ l2 → (∀ M109, M109 = zup M108 26 4 (M108 26 4) → ((zR l1 ∧ zR (M109 26 5)) ∧ ((l1 < (M109 26 5) → (∀ M110, M110 = zup M109 26 5 l1 → (∀ M111, M111 = zup M110 26 6 l2 → ((zR l1 ∧ zR (M111 26 7)) ∧ (((M111 26 7) < l1 → (∀ M112, M112 = zup M111 26 7 l1 → (∀ M113, M113 = zup M112 26 8 l2 → (∀ M114, M114 = zup M113 26 0 ((M113 26 0) + l2) → (∀ M115, M115 = zup M114 26 1 ((M114 26 1) + 1) → Q 0 M115))))) ∧ (l1 ≤ (M111 26 7) → ((zR l1 ∧ zR (M111 26 7)) ∧ ((¬ l1 = (M111 26 7) → (∀ M116, M116 = zup M111 26 0 ((M111 26 0) + l2) → (∀ M117, M117 = zup M116 26 1 ((M116 26 1) + 1) → Q 0 M117))) ∧ (l1 = (M111 26 7) → ((zR l2 ∧ zR (M111 26 8)) ∧ ((l2 ≤ (M111 26 8) → (∀ M118, M118 = zup M111 26 0 ((M111 26 0) + l2) → (∀ M119, M119 = zup M118 26 1 ((M118 26 1) + 1) → Q 0 M119))) ∧ ((M111 26 8) < l2 → (∀ M120, M120 = zup M111 26 7 l1 → (∀ M121, M121 = zup M120 26 8 l2 → (∀ M122, M122 = zup M121 26 0 ((M121 26 0) + l2) → (∀ M123, M123 = zup M122 26 1 ((M122 26 1) + 1) → Q 0 M123)))))))))))))))) ∧ ((M109 26 5) ≤ l1 → ((zR l1 ∧ zR (M109 26 5)) ∧ ((¬ l1 = (M109 26 5) → ((zR l1 ∧ zR (M109 26 7)) ∧ (((M109 26 7) < l1 → (∀ M124, M124 = zup M109 26 7 l1 → (∀ M125, M125 = zup M124 26 8 l2 → (∀ M126, M126 = zup M125 26 0 ((M125 26 0) + l2) → (∀ M127, M127 = zup M126 26 1 ((M126 26 1) + 1) → Q 0 M127))))) ∧ (l1 ≤ (M109 26 7) → ((zR l1 ∧ zR (M109 26 7)) ∧ ((¬ l1 = (M109 26 7) → (∀ M128, M128 = zup M109 26 0 ((M109 26 0) + l2) → (∀ M129, M129 = zup M128 26 1 ((M128 26 1) + 1) → Q 0 M129))) ∧ (l1 = (M109 26 7) → ((zR l2 ∧ zR (M109 26 8)) ∧ ((l2 ≤ (M109 26 8) → (∀ M130, M130 = zup M109 26 0 ((M109 26 0) + l2) → (∀ M131, M131 = zup M130 26 1 ((M130 26 1) + 1) → Q 0 M131))) ∧ ((M109 26 8) < l2 → (∀ M132, M132 = zup M109 26 7 l1 → (∀ M133, M133 = zup M132 26 8 l2 → (∀ M134, M134 = zup M133 26 0 ((M133 26 0) + l2) → (∀ M135, M135 = zup M134 26 1 ((M134 26 1) + 1) → Q 0 M135)))))))))))))) ∧ (l1 = (M109 26 5) → ((zR l2 ∧ zR (M109 26 6)) ∧ ((l2 ≤ (M109 26 6) → ((zR l1 ∧ zR (M109 26 7)) ∧ (((M109 26 7) < l1 → (∀ M136, M136 = zup M109 26 7 l1 → (∀ M137, M137 = zup M136 26 8 l2 → (∀ M138, M138 = zup M137 26 0 ((M137 26 0) + l2) → (∀ M139, M139 = zup M138 26 1 ((M138 26 1) + 1) → Q 0 M139))))) ∧ (l1 ≤ (M109 26 7) → ((zR l1 ∧ zR (M109 26 7)) ∧ ((¬ l1 = (M109 26 7) → (∀ M140, M140 = zup M109 26 0 ((M109 26 0) + l2) → (∀ M141, M141 = zup M140 26 1 ((M140 26 1) + 1) → Q 0 M141))) ∧ (l1 = (M109 26 7) → ((zR l2 ∧ zR (M109 26 8)) ∧ ((l2 ≤ (M109 26 8) → (∀ M142, M142 = zup M109 26 0 ((M109 26 0) + l2) → (∀ M143, M143 = zup M142 26 1 ((M142 26 1) + 1) → Q 0 M143))) ∧ ((M109 26 8) < l2 → (∀ M144, M144 = zup M109 26 7 l1 → (∀ M145, M145 = zup M144 26 8 l2 → (∀ M146, M146 = zup M145 26 0 ((M145 26 0) + l2) → (∀ M147, M147 = zup M146 26 1 ((M146 26 1) + 1) → Q 0 M147)))))))))))))) ∧ ((M109 26 6) < l2 → (∀ M148, M148 = zup M109 26 5 l1 → (∀ M149, M149 = zup M148 26 6 l2 → ((zR l1 ∧ zR (M149 26 7)) ∧ (((M149 26 7) < l1 → (∀ M150, M150 = zup M149 26 7 l1 → (∀ M151, M151 = zup M150 26 8 l2 → (∀ M152, M152 = zup M151 26 0 ((M151 26 0) + l2) → (∀ M153, M153 = zup M152 26 1 ((M152 26 1) + 1) → Q 0 M153))))) ∧ (l1 ≤ (M149 26 7) → ((zR l1 ∧ zR (M149 26 7)) ∧ ((¬ l1 = (M149 26 7) → (∀ M154, M154 = zup M149 26 0 ((M149 26 0) + l2) → (∀ M155, M155 = zup M154 26 1 ((M154 26 1) + 1) → Q 0 M155))) ∧ (l1 = (M149 26 7) → ((zR l2 ∧ zR (M149 26 8)) ∧ ((l2 ≤ (M149 26 8) → (∀ M156, M156 = zup M149 26 0 ((M149 26 0) + l2) → (∀ M157, M157 = zup M156 26 1 ((M156 26 1) + 1) → Q 0 M157))) ∧ ((M149 26 8) < l2 → (∀ M158, M158 = zup M149 26 7 l1 → (∀ M159, M159 = zup M158 26 8 l2 → (∀ M160, M160 = zup M159 26 0 ((M159 26 0) + l2) → (∀ M161, M161 = zup M160 26 1 ((M160 26 1) + 1) → Q 0 M161)))))))))))))))))))))))))) ∧ (l2 < (M108 26 4) → (∀ M162, M162 = zup M108 26 4 l2 → ((zR l1 ∧ zR (M162 26 5)) ∧ ((l1 < (M162 26 5) → (∀ M163, M163 = zup M162 26 5 l1 → (∀ M164, M164 = zup M163 26 6 l2 → ((zR l1 ∧ zR (M164 26 7)) ∧ (((M164 26 7) < l1 → (∀ M165, M165 = zup M164 26 7 l1 → (∀ M166, M166 = zup M165 26 8 l2 → (∀ M167, M167 = zup M166 26 0 ((M166 26 0) + l2) → (∀ M168, M168 = zup M167 26 1 ((M167 26 1) + 1) → Q 0 M168))))) ∧ (l1 ≤ (M164 26 7) → ((zR l1 ∧ zR (M164 26 7)) ∧ ((¬ l1 = (M164 26 7) → (∀ M169, M169 = zup M164 26 0 ((M164 26 0) + l2) → (∀ M170, M170 = zup M169 26 1 ((M169 26 1) + 1) → Q 0 M170))) ∧ (l1 = (M164 26 7) → ((zR l2 ∧ zR (M164 26 8)) ∧ ((l2 ≤ (M164 26 8) → (∀ M171, M171 = zup M164 26 0 ((M164 26 0) + l2) → (∀ M172, M172 = zup M171 26 1 ((M171 26 1) + 1) → Q 0 M172))) ∧ ((M164 26 8) < l2 → (∀ M173, M173 = zup M164 26 7 l1 → (∀ M174, M174 = zup M173 26 8 l2 → (∀ M175, M175 = zup M174 26 0 ((M174 26 0) + l2) → (∀ M176, M176 = zup M175 26 1 ((M175 26 1) + 1) → Q 0 M176)))))))))))))))) ∧ ((M162 26 5) ≤ l1 → ((zR l1 ∧ zR (M162 26 5)) ∧ ((¬ l1 = (M162 26 5) → ((zR l1 ∧ zR (M162 26 7)) ∧ (((M162 26 7) < l1 → (∀ M177, M177 = zup M162 26 7 l1 → (∀ M178, M178 = zup M177 26 8 l2 → (∀ M179, M179 = zup M178 26 0 ((M178 26 0) + l2) → (∀ M180, M180 = zup M179 26 1 ((M179 26 1) + 1) → Q 0 M180))))) ∧ (l1 ≤ (M162 26 7) → ((zR l1 ∧ zR (M162 26 7)) ∧ ((¬ l1 = (M162 26 7) → (∀ M181, M181 = zup M162 26 0 ((M162 26 0) + l2) → (∀ M182, M182 = zup M181 26 1 ((M181 26 1) + 1) → Q 0 M182))) ∧ (l1 = (M162 26 7) → ((zR l2 ∧ zR (M162 26 8)) ∧ ((l2 ≤ (M162 26 8) → (∀ M183, M183 = zup M162 26 0 ((M162 26 0) + l2) → (∀ M184, M184 = zup M183 26 1 ((M183 26 1) + 1) → Q 0 M184))) ∧ ((M162 26 8) < l2 → (∀ M185, M185 = zup M162 26 7 l1 → (∀ M186, M186 = zup M185 26 8 l2 → (∀ M187, M187 = zup M186 26 0 ((M186 26 0) + l2) → (∀ M188, M188 = zup M187 26 1 ((M187 26 1) + 1) → Q 0 M188)))))))))))))) ∧ (l1 = (M162 26 5) → ((zR l2 ∧ zR (M162 26 6)) ∧ ((l2 ≤ (M162 26 6) → ((zR l1 ∧ zR (M162 26 7)) ∧ (((M162 26 7) < l1 → (∀ M189, M189 = zup M162 26 7 l1 → (∀ M190, M190 = zup M189 26 8 l2 → (∀ M191, M191 = zup M190 26 0 ((M190 26 0) + l2) → (∀ M192, M192 = zup M191 26 1 ((M191 26 1) + 1) → Q 0 M192))))) ∧ (l1 ≤ (M162 26 7) → ((zR l1 ∧ zR (M162 26 7)) ∧ ((¬ l1 = (M162 26 7) → (∀ M193, M193 = zup M162 26 0 ((M162 26 0) + l2) → (∀ M194, M194 = zup M193 26 1 ((M193 26 1) + 1) → Q 0 M194))) ∧ (l1 = (M162 26 7) → ((zR l2 ∧ zR (M162 26 8)) ∧ ((l2 ≤ (M162 26 8) → (∀ M195, M195 = zup M162 26 0 ((M162 26 0) + l2) → (∀ M196, M196 = zup M195 26 1 ((M195 26 1) + 1) → Q 0 M196))) ∧ ((M162 26 8) < l2 → (∀ M197, M197 = zup M162 26 7 l1 → (∀ M198, M198 = zup M197 26 8 l2 → (∀ M199, M199 = zup M198 26 0 ((M198 26 0) + l2) → (∀ M200, M200 = zup M199 26 1 ((M199 26 1) + 1) → Q 0 M200)))))))))))))) ∧ ((M162 26 6) < l2 → (∀ M201, M201 = zup M162 26 5 l1 → (∀ M202, M202 = zup M201 26 6 l2 → ((zR l1 ∧ zR (M202 26 7)) ∧ (((M202 26 7) < l1 → (∀ M203, M203 = zup M202 26 7 l1 → (∀ M204, M204 = zup M203 26 8 l2 → (∀ M205, M205 = zup M204 26 0 ((M204 26 0) + l2) → (∀ M206, M206 = zup M205 26 1 ((M205 26 1) + 1) → Q 0 M206))))) ∧ (l1 ≤ (M202 26 7) → ((zR l1 ∧ zR (M202 26 7)) ∧ ((¬ l1 = (M202 26 7) → (∀ M207, M207 = zup M202 26 0 ((M202 26 0) + l2) → (∀ M208, M208 = zup M207 26 1 ((M207 26 1) + 1) → Q 0 M208))) ∧ (l1 = (M202 26 7) → ((zR l2 ∧ zR (M202 26 8)) ∧ ((l2 ≤ (M202 26 8) → (∀ M209, M209 = zup M202 26 0 ((M202 26 0) + l2) → (∀ M210, M210 = zup M209 26 1 ((M209 26 1) + 1) → Q 0 M210))) ∧ ((M202 26 8) < l2 → (∀ M211, M211 = zup M202 26 7 l1 → (∀ M212, M212 = zup M211 26 8 l2 → (∀ M213, M213 = zup M212 26 0 ((M212 26 0) + l2) → (∀ M214, M214 = zup M213 26 1 ((M213 26 1) + 1) → Q 0 M214))))))))))))))))))))))))))))))))) ∧ ((M 26 1) = 0 → (∀ M215, M215 = zup M 26 3 l2 → (∀ M216, M216 = zup M215 26 4 l2 → (∀ M217, M217 = zup M216 26 5 l1 → (∀ M218, M218 = zup M217 26 6 l2 → (∀ M219, M219 = zup M218 26 7 l1 → (∀ M220, M220 = zup M219 26 8 l2 → (∀ M221, M221 = zup M220 26 0 ((M220 26 0) + l2) → (∀ M222, M222 = zup M221 26 1 ((M221 26 1) + 1) → Q 0 M222)))))))))))) ∧ (l2 = (-10000) → (∀ M223, M223 = zup M 26 2 ((M 26 2) + 1) → Q 0 M223)))))
    : zP E mX8_add [.inr (.inr 26), .inl l1, .inl l2] M Q := by
  refine zP_of (by decide +kernel) rfl (Nat.le_of_ble_eq_true rfl) ?_
  show zA E zNN (0, 0) mX8_add 0 [(0, .inr (.inr 26)), (1, .inl l1), (2, .inl l2)] [] M (zQ Q)
  refine zr_iload_n (pc' := 1) (i := 2) dX8_add_0 rfl rfl rfl ?_
  refine zr_sipush (pc' := 4) dX8_add_1 rfl rfl ?_
  refine zr_icmp_ne (tgt := 18) (pc' := 7) dX8_add_4 rfl rfl h.1 (zRd rfl) (fun hc => ?_) (fun hc => ?_)
  · have h := h.2.1 hc
    refine zr_aload_n (pc' := 19) (i := 0) dX8_add_18 rfl rfl rfl ?_
    refine zr_get (pc' := 22) dX8_add_19 rfl ps_26 kd_26 fl_X8_13 kc_8 (gv_26_1 _) ?_
    refine zr_if_ne (tgt := 29) (pc' := 25) dX8_add_22 rfl rfl h.1 (fun hc => ?_) (fun hc => ?_)
    · have h := h.2.1 hc
      refine zr_iconst (pc' := 30) dX8_add_29 rfl ?_
      refine zr_istore_n (pc' := 31) (i := 3) (al' := [(3, .inl 0), (0, .inr (.inr 26)), (1, .inl l1), (2, .inl l2)]) dX8_add_30 rfl rfl (by decide) rfl ?_
      refine zr_aload_n (pc' := 32) (i := 0) dX8_add_31 rfl rfl rfl ?_
      refine zr_iload_n (pc' := 33) (i := 3) dX8_add_32 rfl rfl rfl ?_
      refine zr_if_ne (tgt := 44) (pc' := 36) dX8_add_33 rfl rfl (zRd rfl) (fun hc => absurd hc (by decide)) (fun _ => ?_)
      refine zr_iload_n (pc' := 37) (i := 2) dX8_add_36 rfl rfl rfl ?_
      refine zr_aload_n (pc' := 38) (i := 0) dX8_add_37 rfl rfl rfl ?_
      refine zr_get (pc' := 41) dX8_add_38 rfl ps_26 kd_26 fl_X8_21 kc_8 (gv_26_3 _) ?_
      refine zr_icmp_le (tgt := 48) (pc' := 44) dX8_add_41 rfl rfl h.1.1 h.1.2 (fun hc => ?_) (fun hc => ?_)
      · have h := h.2.1 hc
        refine zr_aload_n (pc' := 49) (i := 0) dX8_add_48 rfl rfl rfl ?_
        refine zr_get (pc' := 52) dX8_add_49 rfl ps_26 kd_26 fl_X8_21 kc_8 (gv_26_3 _) ?_
        refine zr_put (pc' := 55) dX8_add_52 rfl ps_26 kd_26 fl_X8_21 kc_8 rfl nf_26_3 rfl trivial (fun M1 hM1 => ?_)
        have h := h M1 hM1
        refine zr_aload_n (pc' := 56) (i := 0) dX8_add_55 rfl rfl rfl ?_
        refine zr_iload_n (pc' := 57) (i := 3) dX8_add_56 rfl rfl rfl ?_
        refine zr_if_ne (tgt := 68) (pc' := 60) dX8_add_57 rfl rfl (zRd rfl) (fun hc => absurd hc (by decide)) (fun _ => ?_)
        refine zr_iload_n (pc' := 61) (i := 2) dX8_add_60 rfl rfl rfl ?_
        refine zr_aload_n (pc' := 62) (i := 0) dX8_add_61 rfl rfl rfl ?_
        refine zr_get (pc' := 65) dX8_add_62 rfl ps_26 kd_26 fl_X8_24 kc_8 (gv_26_4 _) ?_
        refine zr_icmp_ge (tgt := 72) (pc' := 68) dX8_add_65 rfl rfl h.1.1 h.1.2 (fun hc => ?_) (fun hc => ?_)
        · have h := h.2.1 hc
          refine zr_aload_n (pc' := 73) (i := 0) dX8_add_72 rfl rfl rfl ?_
          refine zr_get (pc' := 76) dX8_add_73 rfl ps_26 kd_26 fl_X8_24 kc_8 (gv_26_4 _) ?_
          refine zr_put (pc' := 79) dX8_add_76 rfl ps_26 kd_26 fl_X8_24 kc_8 rfl nf_26_4 rfl trivial (fun M2 hM1 => ?_)
          have h := h M2 hM1
          refine zr_iload_n (pc' := 80) (i := 3) dX8_add_79 rfl rfl rfl ?_
          refine zr_if_ne (tgt := 107) (pc' := 83) dX8_add_80 rfl rfl (zRd rfl) (fun hc => absurd hc (by decide)) (fun _ => ?_)
          refine zr_iload_n (pc' := 84) (i := 1) dX8_add_83 rfl rfl rfl ?_
          refine zr_aload_n (pc' := 85) (i := 0) dX8_add_84 rfl rfl rfl ?_
          refine zr_get (pc' := 88) dX8_add_85 rfl ps_26 kd_26 fl_X8_27 kc_8 (gv_26_5 _) ?_
          refine zr_icmp_lt (tgt := 107) (pc' := 91) dX8_add_88 rfl rfl h.1.1 h.1.2 (fun hc => ?_) (fun hc => ?_)
          · have h := h.2.1 hc
            refine zr_aload_n (pc' := 108) (i := 0) dX8_add_107 rfl rfl rfl ?_
            refine zr_iload_n (pc' := 109) (i := 1) dX8_add_108 rfl rfl rfl ?_
            refine zr_put (pc' := 112) dX8_add_109 rfl ps_26 kd_26 fl_X8_27 kc_8 rfl nf_26_5 rfl trivial (fun M3 hM1 => ?_)
            have h := h M3 hM1
            refine zr_aload_n (pc' := 113) (i := 0) dX8_add_112 rfl rfl rfl ?_
            refine zr_iload_n (pc' := 114) (i := 2) dX8_add_113 rfl rfl rfl ?_
            refine zr_put (pc' := 117) dX8_add_114 rfl ps_26 kd_26 fl_X8_30 kc_8 rfl nf_26_6 rfl trivial (fun M4 hM1 => ?_)
            have h := h M4 hM1
            refine zr_iload_n (pc' := 118) (i := 3) dX8_add_117 rfl rfl rfl ?_
            refine zr_if_ne (tgt := 145) (pc' := 121) dX8_add_118 rfl rfl (zRd rfl) (fun hc => absurd hc (by decide)) (fun _ => ?_)
            refine zr_iload_n (pc' := 122) (i := 1) dX8_add_121 rfl rfl rfl ?_
            refine zr_aload_n (pc' := 123) (i := 0) dX8_add_122 rfl rfl rfl ?_
            refine zr_get (pc' := 126) dX8_add_123 rfl ps_26 kd_26 fl_X8_33 kc_8 (gv_26_7 _) ?_
            refine zr_icmp_gt (tgt := 145) (pc' := 129) dX8_add_126 rfl rfl h.1.1 h.1.2 (fun hc => ?_) (fun hc => ?_)
            · have h := h.2.1 hc
              refine zr_aload_n (pc' := 146) (i := 0) dX8_add_145 rfl rfl rfl ?_
              refine zr_iload_n (pc' := 147) (i := 1) dX8_add_146 rfl rfl rfl ?_
              refine zr_put (pc' := 150) dX8_add_147 rfl ps_26 kd_26 fl_X8_33 kc_8 rfl nf_26_7 rfl trivial (fun M5 hM1 => ?_)
              have h := h M5 hM1
              refine zr_aload_n (pc' := 151) (i := 0) dX8_add_150 rfl rfl rfl ?_
              refine zr_iload_n (pc' := 152) (i := 2) dX8_add_151 rfl rfl rfl ?_
              refine zr_put (pc' := 155) dX8_add_152 rfl ps_26 kd_26 fl_X8_36 kc_8 rfl nf_26_8 rfl trivial (fun M6 hM1 => ?_)
              have h := h M6 hM1
              refine zr_aload_n (pc' := 156) (i := 0) dX8_add_155 rfl rfl rfl ?_
              refine zr_dup (pc' := 157) dX8_add_156 rfl rfl ?_
              refine zr_get (pc' := 160) dX8_add_157 rfl ps_26 kd_26 fl_X8_7 kc_8 (gv_26_0 _) ?_
              refine zr_iload_n (pc' := 161) (i := 2) dX8_add_160 rfl rfl rfl ?_
              refine zr_iadd (pc' := 162) dX8_add_161 rfl ?_
              refine zr_put (pc' := 165) dX8_add_162 rfl ps_26 kd_26 fl_X8_7 kc_8 rfl nf_26_0 rfl trivial (fun M7 hM1 => ?_)
              have h := h M7 hM1
              refine zr_aload_n (pc' := 166) (i := 0) dX8_add_165 rfl rfl rfl ?_
              refine zr_dup (pc' := 167) dX8_add_166 rfl rfl ?_
              refine zr_get (pc' := 170) dX8_add_167 rfl ps_26 kd_26 fl_X8_13 kc_8 (gv_26_1 _) ?_
              refine zr_iconst (pc' := 171) dX8_add_170 rfl ?_
              refine zr_iadd (pc' := 172) dX8_add_171 rfl ?_
              refine zr_put (pc' := 175) dX8_add_172 rfl ps_26 kd_26 fl_X8_13 kc_8 rfl nf_26_1 rfl trivial (fun M8 hM1 => ?_)
              have h := h M8 hM1
              exact zr_return (x := 0) dX8_add_175 rfl (Nat.le_refl _) (Nat.le_refl _) (And.intro rfl h)
            · have h := h.2.2 hc
              refine zr_iload_n (pc' := 130) (i := 1) dX8_add_129 rfl rfl rfl ?_
              refine zr_aload_n (pc' := 131) (i := 0) dX8_add_130 rfl rfl rfl ?_
              refine zr_get (pc' := 134) dX8_add_131 rfl ps_26 kd_26 fl_X8_33 kc_8 (gv_26_7 _) ?_
              refine zr_icmp_ne (tgt := 155) (pc' := 137) dX8_add_134 rfl rfl h.1.1 h.1.2 (fun hc => ?_) (fun hc => ?_)
              · have h := h.2.1 hc
                refine zr_aload_n (pc' := 156) (i := 0) dX8_add_155 rfl rfl rfl ?_
                refine zr_dup (pc' := 157) dX8_add_156 rfl rfl ?_
                refine zr_get (pc' := 160) dX8_add_157 rfl ps_26 kd_26 fl_X8_7 kc_8 (gv_26_0 _) ?_
                refine zr_iload_n (pc' := 161) (i := 2) dX8_add_160 rfl rfl rfl ?_
                refine zr_iadd (pc' := 162) dX8_add_161 rfl ?_
                refine zr_put (pc' := 165) dX8_add_162 rfl ps_26 kd_26 fl_X8_7 kc_8 rfl nf_26_0 rfl trivial (fun M9 hM1 => ?_)
                have h := h M9 hM1
                refine zr_aload_n (pc' := 166) (i := 0) dX8_add_165 rfl rfl rfl ?_
                refine zr_dup (pc' := 167) dX8_add_166 rfl rfl ?_
                refine zr_get (pc' := 170) dX8_add_167 rfl ps_26 kd_26 fl_X8_13 kc_8 (gv_26_1 _) ?_
                refine zr_iconst (pc' := 171) dX8_add_170 rfl ?_
                refine zr_iadd (pc' := 172) dX8_add_171 rfl ?_
                refine zr_put (pc' := 175) dX8_add_172 rfl ps_26 kd_26 fl_X8_13 kc_8 rfl nf_26_1 rfl trivial (fun M10 hM1 => ?_)
                have h := h M10 hM1
                exact zr_return (x := 0) dX8_add_175 rfl (Nat.le_refl _) (Nat.le_refl _) (And.intro rfl h)
              · have h := h.2.2 hc
                refine zr_iload_n (pc' := 138) (i := 2) dX8_add_137 rfl rfl rfl ?_
                refine zr_aload_n (pc' := 139) (i := 0) dX8_add_138 rfl rfl rfl ?_
                refine zr_get (pc' := 142) dX8_add_139 rfl ps_26 kd_26 fl_X8_36 kc_8 (gv_26_8 _) ?_
                refine zr_icmp_le (tgt := 155) (pc' := 145) dX8_add_142 rfl rfl h.1.1 h.1.2 (fun hc => ?_) (fun hc => ?_)
                · have h := h.2.1 hc
                  refine zr_aload_n (pc' := 156) (i := 0) dX8_add_155 rfl rfl rfl ?_
                  refine zr_dup (pc' := 157) dX8_add_156 rfl rfl ?_
                  refine zr_get (pc' := 160) dX8_add_157 rfl ps_26 kd_26 fl_X8_7 kc_8 (gv_26_0 _) ?_
                  refine zr_iload_n (pc' := 161) (i := 2) dX8_add_160 rfl rfl rfl ?_
                  refine zr_iadd (pc' := 162) dX8_add_161 rfl ?_
                  refine zr_put (pc' := 165) dX8_add_162 rfl ps_26 kd_26 fl_X8_7 kc_8 rfl nf_26_0 rfl trivial (fun M11 hM1 => ?_)
                  have h := h M11 hM1
                  refine zr_aload_n (pc' := 166) (i := 0) dX8_add_165 rfl rfl rfl ?_
                  refine zr_dup (pc' := 167) dX8_add_166 rfl rfl ?_
                  refine zr_get (pc' := 170) dX8_add_167 rfl ps_26 kd_26 fl_X8_13 kc_8 (gv_26_1 _) ?_
                  refine zr_iconst (pc' := 171) dX8_add_170 rfl ?_
                  refine zr_iadd (pc' := 172) dX8_add_171 rfl ?_
                  refine zr_put (pc' := 175) dX8_add_172 rfl ps_26 kd_26 fl_X8_13 kc_8 rfl nf_26_1 rfl trivial (fun M12 hM1 => ?_)
                  have h := h M12 hM1
                  exact zr_return (x := 0) dX8_add_175 rfl (Nat.le_refl _) (Nat.le_refl _) (And.intro rfl h)
                · have h := h.2.2 hc
                  refine zr_aload_n (pc' := 146) (i := 0) dX8_add_145 rfl rfl rfl ?_
                  refine zr_iload_n (pc' := 147) (i := 1) dX8_add_146 rfl rfl rfl ?_
                  refine zr_put (pc' := 150) dX8_add_147 rfl ps_26 kd_26 fl_X8_33 kc_8 rfl nf_26_7 rfl trivial (fun M13 hM1 => ?_)
                  have h := h M13 hM1
                  refine zr_aload_n (pc' := 151) (i := 0) dX8_add_150 rfl rfl rfl ?_
                  refine zr_iload_n (pc' := 152) (i := 2) dX8_add_151 rfl rfl rfl ?_
                  refine zr_put (pc' := 155) dX8_add_152 rfl ps_26 kd_26 fl_X8_36 kc_8 rfl nf_26_8 rfl trivial (fun M14 hM1 => ?_)
                  have h := h M14 hM1
                  refine zr_aload_n (pc' := 156) (i := 0) dX8_add_155 rfl rfl rfl ?_
                  refine zr_dup (pc' := 157) dX8_add_156 rfl rfl ?_
                  refine zr_get (pc' := 160) dX8_add_157 rfl ps_26 kd_26 fl_X8_7 kc_8 (gv_26_0 _) ?_
                  refine zr_iload_n (pc' := 161) (i := 2) dX8_add_160 rfl rfl rfl ?_
                  refine zr_iadd (pc' := 162) dX8_add_161 rfl ?_
                  refine zr_put (pc' := 165) dX8_add_162 rfl ps_26 kd_26 fl_X8_7 kc_8 rfl nf_26_0 rfl trivial (fun M15 hM1 => ?_)
                  have h := h M15 hM1
                  refine zr_aload_n (pc' := 166) (i := 0) dX8_add_165 rfl rfl rfl ?_
                  refine zr_dup (pc' := 167) dX8_add_166 rfl rfl ?_
                  refine zr_get (pc' := 170) dX8_add_167 rfl ps_26 kd_26 fl_X8_13 kc_8 (gv_26_1 _) ?_
                  refine zr_iconst (pc' := 171) dX8_add_170 rfl ?_
                  refine zr_iadd (pc' := 172) dX8_add_171 rfl ?_
                  refine zr_put (pc' := 175) dX8_add_172 rfl ps_26 kd_26 fl_X8_13 kc_8 rfl nf_26_1 rfl trivial (fun M16 hM1 => ?_)
                  have h := h M16 hM1
                  exact zr_return (x := 0) dX8_add_175 rfl (Nat.le_refl _) (Nat.le_refl _) (And.intro rfl h)
          · have h := h.2.2 hc
            refine zr_iload_n (pc' := 92) (i := 1) dX8_add_91 rfl rfl rfl ?_
            refine zr_aload_n (pc' := 93) (i := 0) dX8_add_92 rfl rfl rfl ?_
            refine zr_get (pc' := 96) dX8_add_93 rfl ps_26 kd_26 fl_X8_27 kc_8 (gv_26_5 _) ?_
            refine zr_icmp_ne (tgt := 117) (pc' := 99) dX8_add_96 rfl rfl h.1.1 h.1.2 (fun hc => ?_) (fun hc => ?_)
            · have h := h.2.1 hc
              refine zr_iload_n (pc' := 118) (i := 3) dX8_add_117 rfl rfl rfl ?_
              refine zr_if_ne (tgt := 145) (pc' := 121) dX8_add_118 rfl rfl (zRd rfl) (fun hc => absurd hc (by decide)) (fun _ => ?_)
              refine zr_iload_n (pc' := 122) (i := 1) dX8_add_121 rfl rfl rfl ?_
              refine zr_aload_n (pc' := 123) (i := 0) dX8_add_122 rfl rfl rfl ?_
              refine zr_get (pc' := 126) dX8_add_123 rfl ps_26 kd_26 fl_X8_33 kc_8 (gv_26_7 _) ?_
              refine zr_icmp_gt (tgt := 145) (pc' := 129) dX8_add_126 rfl rfl h.1.1 h.1.2 (fun hc => ?_) (fun hc => ?_)
              · have h := h.2.1 hc
                refine zr_aload_n (pc' := 146) (i := 0) dX8_add_145 rfl rfl rfl ?_
                refine zr_iload_n (pc' := 147) (i := 1) dX8_add_146 rfl rfl rfl ?_
                refine zr_put (pc' := 150) dX8_add_147 rfl ps_26 kd_26 fl_X8_33 kc_8 rfl nf_26_7 rfl trivial (fun M17 hM1 => ?_)
                have h := h M17 hM1
                refine zr_aload_n (pc' := 151) (i := 0) dX8_add_150 rfl rfl rfl ?_
                refine zr_iload_n (pc' := 152) (i := 2) dX8_add_151 rfl rfl rfl ?_
                refine zr_put (pc' := 155) dX8_add_152 rfl ps_26 kd_26 fl_X8_36 kc_8 rfl nf_26_8 rfl trivial (fun M18 hM1 => ?_)
                have h := h M18 hM1
                refine zr_aload_n (pc' := 156) (i := 0) dX8_add_155 rfl rfl rfl ?_
                refine zr_dup (pc' := 157) dX8_add_156 rfl rfl ?_
                refine zr_get (pc' := 160) dX8_add_157 rfl ps_26 kd_26 fl_X8_7 kc_8 (gv_26_0 _) ?_
                refine zr_iload_n (pc' := 161) (i := 2) dX8_add_160 rfl rfl rfl ?_
                refine zr_iadd (pc' := 162) dX8_add_161 rfl ?_
                refine zr_put (pc' := 165) dX8_add_162 rfl ps_26 kd_26 fl_X8_7 kc_8 rfl nf_26_0 rfl trivial (fun M19 hM1 => ?_)
                have h := h M19 hM1
                refine zr_aload_n (pc' := 166) (i := 0) dX8_add_165 rfl rfl rfl ?_
                refine zr_dup (pc' := 167) dX8_add_166 rfl rfl ?_
                refine zr_get (pc' := 170) dX8_add_167 rfl ps_26 kd_26 fl_X8_13 kc_8 (gv_26_1 _) ?_
                refine zr_iconst (pc' := 171) dX8_add_170 rfl ?_
                refine zr_iadd (pc' := 172) dX8_add_171 rfl ?_
                refine zr_put (pc' := 175) dX8_add_172 rfl ps_26 kd_26 fl_X8_13 kc_8 rfl nf_26_1 rfl trivial (fun M20 hM1 => ?_)
                have h := h M20 hM1
                exact zr_return (x := 0) dX8_add_175 rfl (Nat.le_refl _) (Nat.le_refl _) (And.intro rfl h)
              · have h := h.2.2 hc
                refine zr_iload_n (pc' := 130) (i := 1) dX8_add_129 rfl rfl rfl ?_
                refine zr_aload_n (pc' := 131) (i := 0) dX8_add_130 rfl rfl rfl ?_
                refine zr_get (pc' := 134) dX8_add_131 rfl ps_26 kd_26 fl_X8_33 kc_8 (gv_26_7 _) ?_
                refine zr_icmp_ne (tgt := 155) (pc' := 137) dX8_add_134 rfl rfl h.1.1 h.1.2 (fun hc => ?_) (fun hc => ?_)
                · have h := h.2.1 hc
                  refine zr_aload_n (pc' := 156) (i := 0) dX8_add_155 rfl rfl rfl ?_
                  refine zr_dup (pc' := 157) dX8_add_156 rfl rfl ?_
                  refine zr_get (pc' := 160) dX8_add_157 rfl ps_26 kd_26 fl_X8_7 kc_8 (gv_26_0 _) ?_
                  refine zr_iload_n (pc' := 161) (i := 2) dX8_add_160 rfl rfl rfl ?_
                  refine zr_iadd (pc' := 162) dX8_add_161 rfl ?_
                  refine zr_put (pc' := 165) dX8_add_162 rfl ps_26 kd_26 fl_X8_7 kc_8 rfl nf_26_0 rfl trivial (fun M21 hM1 => ?_)
                  have h := h M21 hM1
                  refine zr_aload_n (pc' := 166) (i := 0) dX8_add_165 rfl rfl rfl ?_
                  refine zr_dup (pc' := 167) dX8_add_166 rfl rfl ?_
                  refine zr_get (pc' := 170) dX8_add_167 rfl ps_26 kd_26 fl_X8_13 kc_8 (gv_26_1 _) ?_
                  refine zr_iconst (pc' := 171) dX8_add_170 rfl ?_
                  refine zr_iadd (pc' := 172) dX8_add_171 rfl ?_
                  refine zr_put (pc' := 175) dX8_add_172 rfl ps_26 kd_26 fl_X8_13 kc_8 rfl nf_26_1 rfl trivial (fun M22 hM1 => ?_)
                  have h := h M22 hM1
                  exact zr_return (x := 0) dX8_add_175 rfl (Nat.le_refl _) (Nat.le_refl _) (And.intro rfl h)
                · have h := h.2.2 hc
                  refine zr_iload_n (pc' := 138) (i := 2) dX8_add_137 rfl rfl rfl ?_
                  refine zr_aload_n (pc' := 139) (i := 0) dX8_add_138 rfl rfl rfl ?_
                  refine zr_get (pc' := 142) dX8_add_139 rfl ps_26 kd_26 fl_X8_36 kc_8 (gv_26_8 _) ?_
                  refine zr_icmp_le (tgt := 155) (pc' := 145) dX8_add_142 rfl rfl h.1.1 h.1.2 (fun hc => ?_) (fun hc => ?_)
                  · have h := h.2.1 hc
                    refine zr_aload_n (pc' := 156) (i := 0) dX8_add_155 rfl rfl rfl ?_
                    refine zr_dup (pc' := 157) dX8_add_156 rfl rfl ?_
                    refine zr_get (pc' := 160) dX8_add_157 rfl ps_26 kd_26 fl_X8_7 kc_8 (gv_26_0 _) ?_
                    refine zr_iload_n (pc' := 161) (i := 2) dX8_add_160 rfl rfl rfl ?_
                    refine zr_iadd (pc' := 162) dX8_add_161 rfl ?_
                    refine zr_put (pc' := 165) dX8_add_162 rfl ps_26 kd_26 fl_X8_7 kc_8 rfl nf_26_0 rfl trivial (fun M23 hM1 => ?_)
                    have h := h M23 hM1
                    refine zr_aload_n (pc' := 166) (i := 0) dX8_add_165 rfl rfl rfl ?_
                    refine zr_dup (pc' := 167) dX8_add_166 rfl rfl ?_
                    refine zr_get (pc' := 170) dX8_add_167 rfl ps_26 kd_26 fl_X8_13 kc_8 (gv_26_1 _) ?_
                    refine zr_iconst (pc' := 171) dX8_add_170 rfl ?_
                    refine zr_iadd (pc' := 172) dX8_add_171 rfl ?_
                    refine zr_put (pc' := 175) dX8_add_172 rfl ps_26 kd_26 fl_X8_13 kc_8 rfl nf_26_1 rfl trivial (fun M24 hM1 => ?_)
                    have h := h M24 hM1
                    exact zr_return (x := 0) dX8_add_175 rfl (Nat.le_refl _) (Nat.le_refl _) (And.intro rfl h)
                  · have h := h.2.2 hc
                    refine zr_aload_n (pc' := 146) (i := 0) dX8_add_145 rfl rfl rfl ?_
                    refine zr_iload_n (pc' := 147) (i := 1) dX8_add_146 rfl rfl rfl ?_
                    refine zr_put (pc' := 150) dX8_add_147 rfl ps_26 kd_26 fl_X8_33 kc_8 rfl nf_26_7 rfl trivial (fun M25 hM1 => ?_)
                    have h := h M25 hM1
                    refine zr_aload_n (pc' := 151) (i := 0) dX8_add_150 rfl rfl rfl ?_
                    refine zr_iload_n (pc' := 152) (i := 2) dX8_add_151 rfl rfl rfl ?_
                    refine zr_put (pc' := 155) dX8_add_152 rfl ps_26 kd_26 fl_X8_36 kc_8 rfl nf_26_8 rfl trivial (fun M26 hM1 => ?_)
                    have h := h M26 hM1
                    refine zr_aload_n (pc' := 156) (i := 0) dX8_add_155 rfl rfl rfl ?_
                    refine zr_dup (pc' := 157) dX8_add_156 rfl rfl ?_
                    refine zr_get (pc' := 160) dX8_add_157 rfl ps_26 kd_26 fl_X8_7 kc_8 (gv_26_0 _) ?_
                    refine zr_iload_n (pc' := 161) (i := 2) dX8_add_160 rfl rfl rfl ?_
                    refine zr_iadd (pc' := 162) dX8_add_161 rfl ?_
                    refine zr_put (pc' := 165) dX8_add_162 rfl ps_26 kd_26 fl_X8_7 kc_8 rfl nf_26_0 rfl trivial (fun M27 hM1 => ?_)
                    have h := h M27 hM1
                    refine zr_aload_n (pc' := 166) (i := 0) dX8_add_165 rfl rfl rfl ?_
                    refine zr_dup (pc' := 167) dX8_add_166 rfl rfl ?_
                    refine zr_get (pc' := 170) dX8_add_167 rfl ps_26 kd_26 fl_X8_13 kc_8 (gv_26_1 _) ?_
                    refine zr_iconst (pc' := 171) dX8_add_170 rfl ?_
                    refine zr_iadd (pc' := 172) dX8_add_171 rfl ?_
                    refine zr_put (pc' := 175) dX8_add_172 rfl ps_26 kd_26 fl_X8_13 kc_8 rfl nf_26_1 rfl trivial (fun M28 hM1 => ?_)
                    have h := h M28 hM1
                    exact zr_return (x := 0) dX8_add_175 rfl (Nat.le_refl _) (Nat.le_refl _) (And.intro rfl h)
            · have h := h.2.2 hc
              refine zr_iload_n (pc' := 100) (i := 2) dX8_add_99 rfl rfl rfl ?_
              refine zr_aload_n (pc' := 101) (i := 0) dX8_add_100 rfl rfl rfl ?_
              refine zr_get (pc' := 104) dX8_add_101 rfl ps_26 kd_26 fl_X8_30 kc_8 (gv_26_6 _) ?_
              refine zr_icmp_le (tgt := 117) (pc' := 107) dX8_add_104 rfl rfl h.1.1 h.1.2 (fun hc => ?_) (fun hc => ?_)
              · have h := h.2.1 hc
                refine zr_iload_n (pc' := 118) (i := 3) dX8_add_117 rfl rfl rfl ?_
                refine zr_if_ne (tgt := 145) (pc' := 121) dX8_add_118 rfl rfl (zRd rfl) (fun hc => absurd hc (by decide)) (fun _ => ?_)
                refine zr_iload_n (pc' := 122) (i := 1) dX8_add_121 rfl rfl rfl ?_
                refine zr_aload_n (pc' := 123) (i := 0) dX8_add_122 rfl rfl rfl ?_
                refine zr_get (pc' := 126) dX8_add_123 rfl ps_26 kd_26 fl_X8_33 kc_8 (gv_26_7 _) ?_
                refine zr_icmp_gt (tgt := 145) (pc' := 129) dX8_add_126 rfl rfl h.1.1 h.1.2 (fun hc => ?_) (fun hc => ?_)
                · have h := h.2.1 hc
                  refine zr_aload_n (pc' := 146) (i := 0) dX8_add_145 rfl rfl rfl ?_
                  refine zr_iload_n (pc' := 147) (i := 1) dX8_add_146 rfl rfl rfl ?_
                  refine zr_put (pc' := 150) dX8_add_147 rfl ps_26 kd_26 fl_X8_33 kc_8 rfl nf_26_7 rfl trivial (fun M29 hM1 => ?_)
                  have h := h M29 hM1
                  refine zr_aload_n (pc' := 151) (i := 0) dX8_add_150 rfl rfl rfl ?_
                  refine zr_iload_n (pc' := 152) (i := 2) dX8_add_151 rfl rfl rfl ?_
                  refine zr_put (pc' := 155) dX8_add_152 rfl ps_26 kd_26 fl_X8_36 kc_8 rfl nf_26_8 rfl trivial (fun M30 hM1 => ?_)
                  have h := h M30 hM1
                  refine zr_aload_n (pc' := 156) (i := 0) dX8_add_155 rfl rfl rfl ?_
                  refine zr_dup (pc' := 157) dX8_add_156 rfl rfl ?_
                  refine zr_get (pc' := 160) dX8_add_157 rfl ps_26 kd_26 fl_X8_7 kc_8 (gv_26_0 _) ?_
                  refine zr_iload_n (pc' := 161) (i := 2) dX8_add_160 rfl rfl rfl ?_
                  refine zr_iadd (pc' := 162) dX8_add_161 rfl ?_
                  refine zr_put (pc' := 165) dX8_add_162 rfl ps_26 kd_26 fl_X8_7 kc_8 rfl nf_26_0 rfl trivial (fun M31 hM1 => ?_)
                  have h := h M31 hM1
                  refine zr_aload_n (pc' := 166) (i := 0) dX8_add_165 rfl rfl rfl ?_
                  refine zr_dup (pc' := 167) dX8_add_166 rfl rfl ?_
                  refine zr_get (pc' := 170) dX8_add_167 rfl ps_26 kd_26 fl_X8_13 kc_8 (gv_26_1 _) ?_
                  refine zr_iconst (pc' := 171) dX8_add_170 rfl ?_
                  refine zr_iadd (pc' := 172) dX8_add_171 rfl ?_
                  refine zr_put (pc' := 175) dX8_add_172 rfl ps_26 kd_26 fl_X8_13 kc_8 rfl nf_26_1 rfl trivial (fun M32 hM1 => ?_)
                  have h := h M32 hM1
                  exact zr_return (x := 0) dX8_add_175 rfl (Nat.le_refl _) (Nat.le_refl _) (And.intro rfl h)
                · have h := h.2.2 hc
                  refine zr_iload_n (pc' := 130) (i := 1) dX8_add_129 rfl rfl rfl ?_
                  refine zr_aload_n (pc' := 131) (i := 0) dX8_add_130 rfl rfl rfl ?_
                  refine zr_get (pc' := 134) dX8_add_131 rfl ps_26 kd_26 fl_X8_33 kc_8 (gv_26_7 _) ?_
                  refine zr_icmp_ne (tgt := 155) (pc' := 137) dX8_add_134 rfl rfl h.1.1 h.1.2 (fun hc => ?_) (fun hc => ?_)
                  · have h := h.2.1 hc
                    refine zr_aload_n (pc' := 156) (i := 0) dX8_add_155 rfl rfl rfl ?_
                    refine zr_dup (pc' := 157) dX8_add_156 rfl rfl ?_
                    refine zr_get (pc' := 160) dX8_add_157 rfl ps_26 kd_26 fl_X8_7 kc_8 (gv_26_0 _) ?_
                    refine zr_iload_n (pc' := 161) (i := 2) dX8_add_160 rfl rfl rfl ?_
                    refine zr_iadd (pc' := 162) dX8_add_161 rfl ?_
                    refine zr_put (pc' := 165) dX8_add_162 rfl ps_26 kd_26 fl_X8_7 kc_8 rfl nf_26_0 rfl trivial (fun M33 hM1 => ?_)
                    have h := h M33 hM1
                    refine zr_aload_n (pc' := 166) (i := 0) dX8_add_165 rfl rfl rfl ?_
                    refine zr_dup (pc' := 167) dX8_add_166 rfl rfl ?_
                    refine zr_get (pc' := 170) dX8_add_167 rfl ps_26 kd_26 fl_X8_13 kc_8 (gv_26_1 _) ?_
                    refine zr_iconst (pc' := 171) dX8_add_170 rfl ?_
                    refine zr_iadd (pc' := 172) dX8_add_171 rfl ?_
                    refine zr_put (pc' := 175) dX8_add_172 rfl ps_26 kd_26 fl_X8_13 kc_8 rfl nf_26_1 rfl trivial (fun M34 hM1 => ?_)
                    have h := h M34 hM1
                    exact zr_return (x := 0) dX8_add_175 rfl (Nat.le_refl _) (Nat.le_refl _) (And.intro rfl h)
                  · have h := h.2.2 hc
                    refine zr_iload_n (pc' := 138) (i := 2) dX8_add_137 rfl rfl rfl ?_
                    refine zr_aload_n (pc' := 139) (i := 0) dX8_add_138 rfl rfl rfl ?_
                    refine zr_get (pc' := 142) dX8_add_139 rfl ps_26 kd_26 fl_X8_36 kc_8 (gv_26_8 _) ?_
                    refine zr_icmp_le (tgt := 155) (pc' := 145) dX8_add_142 rfl rfl h.1.1 h.1.2 (fun hc => ?_) (fun hc => ?_)
                    · have h := h.2.1 hc
                      refine zr_aload_n (pc' := 156) (i := 0) dX8_add_155 rfl rfl rfl ?_
                      refine zr_dup (pc' := 157) dX8_add_156 rfl rfl ?_
                      refine zr_get (pc' := 160) dX8_add_157 rfl ps_26 kd_26 fl_X8_7 kc_8 (gv_26_0 _) ?_
                      refine zr_iload_n (pc' := 161) (i := 2) dX8_add_160 rfl rfl rfl ?_
                      refine zr_iadd (pc' := 162) dX8_add_161 rfl ?_
                      refine zr_put (pc' := 165) dX8_add_162 rfl ps_26 kd_26 fl_X8_7 kc_8 rfl nf_26_0 rfl trivial (fun M35 hM1 => ?_)
                      have h := h M35 hM1
                      refine zr_aload_n (pc' := 166) (i := 0) dX8_add_165 rfl rfl rfl ?_
                      refine zr_dup (pc' := 167) dX8_add_166 rfl rfl ?_
                      refine zr_get (pc' := 170) dX8_add_167 rfl ps_26 kd_26 fl_X8_13 kc_8 (gv_26_1 _) ?_
                      refine zr_iconst (pc' := 171) dX8_add_170 rfl ?_
                      refine zr_iadd (pc' := 172) dX8_add_171 rfl ?_
                      refine zr_put (pc' := 175) dX8_add_172 rfl ps_26 kd_26 fl_X8_13 kc_8 rfl nf_26_1 rfl trivial (fun M36 hM1 => ?_)
                      have h := h M36 hM1
                      exact zr_return (x := 0) dX8_add_175 rfl (Nat.le_refl _) (Nat.le_refl _) (And.intro rfl h)
                    · have h := h.2.2 hc
                      refine zr_aload_n (pc' := 146) (i := 0) dX8_add_145 rfl rfl rfl ?_
                      refine zr_iload_n (pc' := 147) (i := 1) dX8_add_146 rfl rfl rfl ?_
                      refine zr_put (pc' := 150) dX8_add_147 rfl ps_26 kd_26 fl_X8_33 kc_8 rfl nf_26_7 rfl trivial (fun M37 hM1 => ?_)
                      have h := h M37 hM1
                      refine zr_aload_n (pc' := 151) (i := 0) dX8_add_150 rfl rfl rfl ?_
                      refine zr_iload_n (pc' := 152) (i := 2) dX8_add_151 rfl rfl rfl ?_
                      refine zr_put (pc' := 155) dX8_add_152 rfl ps_26 kd_26 fl_X8_36 kc_8 rfl nf_26_8 rfl trivial (fun M38 hM1 => ?_)
                      have h := h M38 hM1
                      refine zr_aload_n (pc' := 156) (i := 0) dX8_add_155 rfl rfl rfl ?_
                      refine zr_dup (pc' := 157) dX8_add_156 rfl rfl ?_
                      refine zr_get (pc' := 160) dX8_add_157 rfl ps_26 kd_26 fl_X8_7 kc_8 (gv_26_0 _) ?_
                      refine zr_iload_n (pc' := 161) (i := 2) dX8_add_160 rfl rfl rfl ?_
                      refine zr_iadd (pc' := 162) dX8_add_161 rfl ?_
                      refine zr_put (pc' := 165) dX8_add_162 rfl ps_26 kd_26 fl_X8_7 kc_8 rfl nf_26_0 rfl trivial (fun M39 hM1 => ?_)
                      have h := h M39 hM1
                      refine zr_aload_n (pc' := 166) (i := 0) dX8_add_165 rfl rfl rfl ?_
                      refine zr_dup (pc' := 167) dX8_add_166 rfl rfl ?_
                      refine zr_get (pc' := 170) dX8_add_167 rfl ps_26 kd_26 fl_X8_13 kc_8 (gv_26_1 _) ?_
                      refine zr_iconst (pc' := 171) dX8_add_170 rfl ?_
                      refine zr_iadd (pc' := 172) dX8_add_171 rfl ?_
                      refine zr_put (pc' := 175) dX8_add_172 rfl ps_26 kd_26 fl_X8_13 kc_8 rfl nf_26_1 rfl trivial (fun M40 hM1 => ?_)
                      have h := h M40 hM1
                      exact zr_return (x := 0) dX8_add_175 rfl (Nat.le_refl _) (Nat.le_refl _) (And.intro rfl h)
              · have h := h.2.2 hc
                refine zr_aload_n (pc' := 108) (i := 0) dX8_add_107 rfl rfl rfl ?_
                refine zr_iload_n (pc' := 109) (i := 1) dX8_add_108 rfl rfl rfl ?_
                refine zr_put (pc' := 112) dX8_add_109 rfl ps_26 kd_26 fl_X8_27 kc_8 rfl nf_26_5 rfl trivial (fun M41 hM1 => ?_)
                have h := h M41 hM1
                refine zr_aload_n (pc' := 113) (i := 0) dX8_add_112 rfl rfl rfl ?_
                refine zr_iload_n (pc' := 114) (i := 2) dX8_add_113 rfl rfl rfl ?_
                refine zr_put (pc' := 117) dX8_add_114 rfl ps_26 kd_26 fl_X8_30 kc_8 rfl nf_26_6 rfl trivial (fun M42 hM1 => ?_)
                have h := h M42 hM1
                refine zr_iload_n (pc' := 118) (i := 3) dX8_add_117 rfl rfl rfl ?_
                refine zr_if_ne (tgt := 145) (pc' := 121) dX8_add_118 rfl rfl (zRd rfl) (fun hc => absurd hc (by decide)) (fun _ => ?_)
                refine zr_iload_n (pc' := 122) (i := 1) dX8_add_121 rfl rfl rfl ?_
                refine zr_aload_n (pc' := 123) (i := 0) dX8_add_122 rfl rfl rfl ?_
                refine zr_get (pc' := 126) dX8_add_123 rfl ps_26 kd_26 fl_X8_33 kc_8 (gv_26_7 _) ?_
                refine zr_icmp_gt (tgt := 145) (pc' := 129) dX8_add_126 rfl rfl h.1.1 h.1.2 (fun hc => ?_) (fun hc => ?_)
                · have h := h.2.1 hc
                  refine zr_aload_n (pc' := 146) (i := 0) dX8_add_145 rfl rfl rfl ?_
                  refine zr_iload_n (pc' := 147) (i := 1) dX8_add_146 rfl rfl rfl ?_
                  refine zr_put (pc' := 150) dX8_add_147 rfl ps_26 kd_26 fl_X8_33 kc_8 rfl nf_26_7 rfl trivial (fun M43 hM1 => ?_)
                  have h := h M43 hM1
                  refine zr_aload_n (pc' := 151) (i := 0) dX8_add_150 rfl rfl rfl ?_
                  refine zr_iload_n (pc' := 152) (i := 2) dX8_add_151 rfl rfl rfl ?_
                  refine zr_put (pc' := 155) dX8_add_152 rfl ps_26 kd_26 fl_X8_36 kc_8 rfl nf_26_8 rfl trivial (fun M44 hM1 => ?_)
                  have h := h M44 hM1
                  refine zr_aload_n (pc' := 156) (i := 0) dX8_add_155 rfl rfl rfl ?_
                  refine zr_dup (pc' := 157) dX8_add_156 rfl rfl ?_
                  refine zr_get (pc' := 160) dX8_add_157 rfl ps_26 kd_26 fl_X8_7 kc_8 (gv_26_0 _) ?_
                  refine zr_iload_n (pc' := 161) (i := 2) dX8_add_160 rfl rfl rfl ?_
                  refine zr_iadd (pc' := 162) dX8_add_161 rfl ?_
                  refine zr_put (pc' := 165) dX8_add_162 rfl ps_26 kd_26 fl_X8_7 kc_8 rfl nf_26_0 rfl trivial (fun M45 hM1 => ?_)
                  have h := h M45 hM1
                  refine zr_aload_n (pc' := 166) (i := 0) dX8_add_165 rfl rfl rfl ?_
                  refine zr_dup (pc' := 167) dX8_add_166 rfl rfl ?_
                  refine zr_get (pc' := 170) dX8_add_167 rfl ps_26 kd_26 fl_X8_13 kc_8 (gv_26_1 _) ?_
                  refine zr_iconst (pc' := 171) dX8_add_170 rfl ?_
                  refine zr_iadd (pc' := 172) dX8_add_171 rfl ?_
                  refine zr_put (pc' := 175) dX8_add_172 rfl ps_26 kd_26 fl_X8_13 kc_8 rfl nf_26_1 rfl trivial (fun M46 hM1 => ?_)
                  have h := h M46 hM1
                  exact zr_return (x := 0) dX8_add_175 rfl (Nat.le_refl _) (Nat.le_refl _) (And.intro rfl h)
                · have h := h.2.2 hc
                  refine zr_iload_n (pc' := 130) (i := 1) dX8_add_129 rfl rfl rfl ?_
                  refine zr_aload_n (pc' := 131) (i := 0) dX8_add_130 rfl rfl rfl ?_
                  refine zr_get (pc' := 134) dX8_add_131 rfl ps_26 kd_26 fl_X8_33 kc_8 (gv_26_7 _) ?_
                  refine zr_icmp_ne (tgt := 155) (pc' := 137) dX8_add_134 rfl rfl h.1.1 h.1.2 (fun hc => ?_) (fun hc => ?_)
                  · have h := h.2.1 hc
                    refine zr_aload_n (pc' := 156) (i := 0) dX8_add_155 rfl rfl rfl ?_
                    refine zr_dup (pc' := 157) dX8_add_156 rfl rfl ?_
                    refine zr_get (pc' := 160) dX8_add_157 rfl ps_26 kd_26 fl_X8_7 kc_8 (gv_26_0 _) ?_
                    refine zr_iload_n (pc' := 161) (i := 2) dX8_add_160 rfl rfl rfl ?_
                    refine zr_iadd (pc' := 162) dX8_add_161 rfl ?_
                    refine zr_put (pc' := 165) dX8_add_162 rfl ps_26 kd_26 fl_X8_7 kc_8 rfl nf_26_0 rfl trivial (fun M47 hM1 => ?_)
                    have h := h M47 hM1
                    refine zr_aload_n (pc' := 166) (i := 0) dX8_add_165 rfl rfl rfl ?_
                    refine zr_dup (pc' := 167) dX8_add_166 rfl rfl ?_
                    refine zr_get (pc' := 170) dX8_add_167 rfl ps_26 kd_26 fl_X8_13 kc_8 (gv_26_1 _) ?_
                    refine zr_iconst (pc' := 171) dX8_add_170 rfl ?_
                    refine zr_iadd (pc' := 172) dX8_add_171 rfl ?_
                    refine zr_put (pc' := 175) dX8_add_172 rfl ps_26 kd_26 fl_X8_13 kc_8 rfl nf_26_1 rfl trivial (fun M48 hM1 => ?_)
                    have h := h M48 hM1
                    exact zr_return (x := 0) dX8_add_175 rfl (Nat.le_refl _) (Nat.le_refl _) (And.intro rfl h)
                  · have h := h.2.2 hc
                    refine zr_iload_n (pc' := 138) (i := 2) dX8_add_137 rfl rfl rfl ?_
                    refine zr_aload_n (pc' := 139) (i := 0) dX8_add_138 rfl rfl rfl ?_
                    refine zr_get (pc' := 142) dX8_add_139 rfl ps_26 kd_26 fl_X8_36 kc_8 (gv_26_8 _) ?_
                    refine zr_icmp_le (tgt := 155) (pc' := 145) dX8_add_142 rfl rfl h.1.1 h.1.2 (fun hc => ?_) (fun hc => ?_)
                    · have h := h.2.1 hc
                      refine zr_aload_n (pc' := 156) (i := 0) dX8_add_155 rfl rfl rfl ?_
                      refine zr_dup (pc' := 157) dX8_add_156 rfl rfl ?_
                      refine zr_get (pc' := 160) dX8_add_157 rfl ps_26 kd_26 fl_X8_7 kc_8 (gv_26_0 _) ?_
                      refine zr_iload_n (pc' := 161) (i := 2) dX8_add_160 rfl rfl rfl ?_
                      refine zr_iadd (pc' := 162) dX8_add_161 rfl ?_
                      refine zr_put (pc' := 165) dX8_add_162 rfl ps_26 kd_26 fl_X8_7 kc_8 rfl nf_26_0 rfl trivial (fun M49 hM1 => ?_)
                      have h := h M49 hM1
                      refine zr_aload_n (pc' := 166) (i := 0) dX8_add_165 rfl rfl rfl ?_
                      refine zr_dup (pc' := 167) dX8_add_166 rfl rfl ?_
                      refine zr_get (pc' := 170) dX8_add_167 rfl ps_26 kd_26 fl_X8_13 kc_8 (gv_26_1 _) ?_
                      refine zr_iconst (pc' := 171) dX8_add_170 rfl ?_
                      refine zr_iadd (pc' := 172) dX8_add_171 rfl ?_
                      refine zr_put (pc' := 175) dX8_add_172 rfl ps_26 kd_26 fl_X8_13 kc_8 rfl nf_26_1 rfl trivial (fun M50 hM1 => ?_)
                      have h := h M50 hM1
                      exact zr_return (x := 0) dX8_add_175 rfl (Nat.le_refl _) (Nat.le_refl _) (And.intro rfl h)
                    · have h := h.2.2 hc
                      refine zr_aload_n (pc' := 146) (i := 0) dX8_add_145 rfl rfl rfl ?_
                      refine zr_iload_n (pc' := 147) (i := 1) dX8_add_146 rfl rfl rfl ?_
                      refine zr_put (pc' := 150) dX8_add_147 rfl ps_26 kd_26 fl_X8_33 kc_8 rfl nf_26_7 rfl trivial (fun M51 hM1 => ?_)
                      have h := h M51 hM1
                      refine zr_aload_n (pc' := 151) (i := 0) dX8_add_150 rfl rfl rfl ?_
                      refine zr_iload_n (pc' := 152) (i := 2) dX8_add_151 rfl rfl rfl ?_
                      refine zr_put (pc' := 155) dX8_add_152 rfl ps_26 kd_26 fl_X8_36 kc_8 rfl nf_26_8 rfl trivial (fun M52 hM1 => ?_)
                      have h := h M52 hM1
                      refine zr_aload_n (pc' := 156) (i := 0) dX8_add_155 rfl rfl rfl ?_
                      refine zr_dup (pc' := 157) dX8_add_156 rfl rfl ?_
                      refine zr_get (pc' := 160) dX8_add_157 rfl ps_26 kd_26 fl_X8_7 kc_8 (gv_26_0 _) ?_
                      refine zr_iload_n (pc' := 161) (i := 2) dX8_add_160 rfl rfl rfl ?_
                      refine zr_iadd (pc' := 162) dX8_add_161 rfl ?_
                      refine zr_put (pc' := 165) dX8_add_162 rfl ps_26 kd_26 fl_X8_7 kc_8 rfl nf_26_0 rfl trivial (fun M53 hM1 => ?_)
                      have h := h M53 hM1
                      refine zr_aload_n (pc' := 166) (i := 0) dX8_add_165 rfl rfl rfl ?_
                      refine zr_dup (pc' := 167) dX8_add_166 rfl rfl ?_
                      refine zr_get (pc' := 170) dX8_add_167 rfl ps_26 kd_26 fl_X8_13 kc_8 (gv_26_1 _) ?_
                      refine zr_iconst (pc' := 171) dX8_add_170 rfl ?_
                      refine zr_iadd (pc' := 172) dX8_add_171 rfl ?_
                      refine zr_put (pc' := 175) dX8_add_172 rfl ps_26 kd_26 fl_X8_13 kc_8 rfl nf_26_1 rfl trivial (fun M54 hM1 => ?_)
                      have h := h M54 hM1
                      exact zr_return (x := 0) dX8_add_175 rfl (Nat.le_refl _) (Nat.le_refl _) (And.intro rfl h)
        · have h := h.2.2 hc
          refine zr_iload_n (pc' := 69) (i := 2) dX8_add_68 rfl rfl rfl ?_
          refine zr_goto (pc' := 76) dX8_add_69 rfl ?_
          refine zr_put (pc' := 79) dX8_add_76 rfl ps_26 kd_26 fl_X8_24 kc_8 rfl nf_26_4 rfl trivial (fun M55 hM1 => ?_)
          have h := h M55 hM1
          refine zr_iload_n (pc' := 80) (i := 3) dX8_add_79 rfl rfl rfl ?_
          refine zr_if_ne (tgt := 107) (pc' := 83) dX8_add_80 rfl rfl (zRd rfl) (fun hc => absurd hc (by decide)) (fun _ => ?_)
          refine zr_iload_n (pc' := 84) (i := 1) dX8_add_83 rfl rfl rfl ?_
          refine zr_aload_n (pc' := 85) (i := 0) dX8_add_84 rfl rfl rfl ?_
          refine zr_get (pc' := 88) dX8_add_85 rfl ps_26 kd_26 fl_X8_27 kc_8 (gv_26_5 _) ?_
          refine zr_icmp_lt (tgt := 107) (pc' := 91) dX8_add_88 rfl rfl h.1.1 h.1.2 (fun hc => ?_) (fun hc => ?_)
          · have h := h.2.1 hc
            refine zr_aload_n (pc' := 108) (i := 0) dX8_add_107 rfl rfl rfl ?_
            refine zr_iload_n (pc' := 109) (i := 1) dX8_add_108 rfl rfl rfl ?_
            refine zr_put (pc' := 112) dX8_add_109 rfl ps_26 kd_26 fl_X8_27 kc_8 rfl nf_26_5 rfl trivial (fun M56 hM1 => ?_)
            have h := h M56 hM1
            refine zr_aload_n (pc' := 113) (i := 0) dX8_add_112 rfl rfl rfl ?_
            refine zr_iload_n (pc' := 114) (i := 2) dX8_add_113 rfl rfl rfl ?_
            refine zr_put (pc' := 117) dX8_add_114 rfl ps_26 kd_26 fl_X8_30 kc_8 rfl nf_26_6 rfl trivial (fun M57 hM1 => ?_)
            have h := h M57 hM1
            refine zr_iload_n (pc' := 118) (i := 3) dX8_add_117 rfl rfl rfl ?_
            refine zr_if_ne (tgt := 145) (pc' := 121) dX8_add_118 rfl rfl (zRd rfl) (fun hc => absurd hc (by decide)) (fun _ => ?_)
            refine zr_iload_n (pc' := 122) (i := 1) dX8_add_121 rfl rfl rfl ?_
            refine zr_aload_n (pc' := 123) (i := 0) dX8_add_122 rfl rfl rfl ?_
            refine zr_get (pc' := 126) dX8_add_123 rfl ps_26 kd_26 fl_X8_33 kc_8 (gv_26_7 _) ?_
            refine zr_icmp_gt (tgt := 145) (pc' := 129) dX8_add_126 rfl rfl h.1.1 h.1.2 (fun hc => ?_) (fun hc => ?_)
            · have h := h.2.1 hc
              refine zr_aload_n (pc' := 146) (i := 0) dX8_add_145 rfl rfl rfl ?_
              refine zr_iload_n (pc' := 147) (i := 1) dX8_add_146 rfl rfl rfl ?_
              refine zr_put (pc' := 150) dX8_add_147 rfl ps_26 kd_26 fl_X8_33 kc_8 rfl nf_26_7 rfl trivial (fun M58 hM1 => ?_)
              have h := h M58 hM1
              refine zr_aload_n (pc' := 151) (i := 0) dX8_add_150 rfl rfl rfl ?_
              refine zr_iload_n (pc' := 152) (i := 2) dX8_add_151 rfl rfl rfl ?_
              refine zr_put (pc' := 155) dX8_add_152 rfl ps_26 kd_26 fl_X8_36 kc_8 rfl nf_26_8 rfl trivial (fun M59 hM1 => ?_)
              have h := h M59 hM1
              refine zr_aload_n (pc' := 156) (i := 0) dX8_add_155 rfl rfl rfl ?_
              refine zr_dup (pc' := 157) dX8_add_156 rfl rfl ?_
              refine zr_get (pc' := 160) dX8_add_157 rfl ps_26 kd_26 fl_X8_7 kc_8 (gv_26_0 _) ?_
              refine zr_iload_n (pc' := 161) (i := 2) dX8_add_160 rfl rfl rfl ?_
              refine zr_iadd (pc' := 162) dX8_add_161 rfl ?_
              refine zr_put (pc' := 165) dX8_add_162 rfl ps_26 kd_26 fl_X8_7 kc_8 rfl nf_26_0 rfl trivial (fun M60 hM1 => ?_)
              have h := h M60 hM1
              refine zr_aload_n (pc' := 166) (i := 0) dX8_add_165 rfl rfl rfl ?_
              refine zr_dup (pc' := 167) dX8_add_166 rfl rfl ?_
              refine zr_get (pc' := 170) dX8_add_167 rfl ps_26 kd_26 fl_X8_13 kc_8 (gv_26_1 _) ?_
              refine zr_iconst (pc' := 171) dX8_add_170 rfl ?_
              refine zr_iadd (pc' := 172) dX8_add_171 rfl ?_
              refine zr_put (pc' := 175) dX8_add_172 rfl ps_26 kd_26 fl_X8_13 kc_8 rfl nf_26_1 rfl trivial (fun M61 hM1 => ?_)
              have h := h M61 hM1
              exact zr_return (x := 0) dX8_add_175 rfl (Nat.le_refl _) (Nat.le_refl _) (And.intro rfl h)
            · have h := h.2.2 hc
              refine zr_iload_n (pc' := 130) (i := 1) dX8_add_129 rfl rfl rfl ?_
              refine zr_aload_n (pc' := 131) (i := 0) dX8_add_130 rfl rfl rfl ?_
              refine zr_get (pc' := 134) dX8_add_131 rfl ps_26 kd_26 fl_X8_33 kc_8 (gv_26_7 _) ?_
              refine zr_icmp_ne (tgt := 155) (pc' := 137) dX8_add_134 rfl rfl h.1.1 h.1.2 (fun hc => ?_) (fun hc => ?_)
              · have h := h.2.1 hc
                refine zr_aload_n (pc' := 156) (i := 0) dX8_add_155 rfl rfl rfl ?_
                refine zr_dup (pc' := 157) dX8_add_156 rfl rfl ?_
                refine zr_get (pc' := 160) dX8_add_157 rfl ps_26 kd_26 fl_X8_7 kc_8 (gv_26_0 _) ?_
                refine zr_iload_n (pc' := 161) (i := 2) dX8_add_160 rfl rfl rfl ?_
                refine zr_iadd (pc' := 162) dX8_add_161 rfl ?_
                refine zr_put (pc' := 165) dX8_add_162 rfl ps_26 kd_26 fl_X8_7 kc_8 rfl nf_26_0 rfl trivial (fun M62 hM1 => ?_)
                have h := h M62 hM1
                refine zr_aload_n (pc' := 166) (i := 0) dX8_add_165 rfl rfl rfl ?_
                refine zr_dup (pc' := 167) dX8_add_166 rfl rfl ?_
                refine zr_get (pc' := 170) dX8_add_167 rfl ps_26 kd_26 fl_X8_13 kc_8 (gv_26_1 _) ?_
                refine zr_iconst (pc' := 171) dX8_add_170 rfl ?_
                refine zr_iadd (pc' := 172) dX8_add_171 rfl ?_
                refine zr_put (pc' := 175) dX8_add_172 rfl ps_26 kd_26 fl_X8_13 kc_8 rfl nf_26_1 rfl trivial (fun M63 hM1 => ?_)
                have h := h M63 hM1
                exact zr_return (x := 0) dX8_add_175 rfl (Nat.le_refl _) (Nat.le_refl _) (And.intro rfl h)
              · have h := h.2.2 hc
                refine zr_iload_n (pc' := 138) (i := 2) dX8_add_137 rfl rfl rfl ?_
                refine zr_aload_n (pc' := 139) (i := 0) dX8_add_138 rfl rfl rfl ?_
                refine zr_get (pc' := 142) dX8_add_139 rfl ps_26 kd_26 fl_X8_36 kc_8 (gv_26_8 _) ?_
                refine zr_icmp_le (tgt := 155) (pc' := 145) dX8_add_142 rfl rfl h.1.1 h.1.2 (fun hc => ?_) (fun hc => ?_)
                · have h := h.2.1 hc
                  refine zr_aload_n (pc' := 156) (i := 0) dX8_add_155 rfl rfl rfl ?_
                  refine zr_dup (pc' := 157) dX8_add_156 rfl rfl ?_
                  refine zr_get (pc' := 160) dX8_add_157 rfl ps_26 kd_26 fl_X8_7 kc_8 (gv_26_0 _) ?_
                  refine zr_iload_n (pc' := 161) (i := 2) dX8_add_160 rfl rfl rfl ?_
                  refine zr_iadd (pc' := 162) dX8_add_161 rfl ?_
                  refine zr_put (pc' := 165) dX8_add_162 rfl ps_26 kd_26 fl_X8_7 kc_8 rfl nf_26_0 rfl trivial (fun M64 hM1 => ?_)
                  have h := h M64 hM1
                  refine zr_aload_n (pc' := 166) (i := 0) dX8_add_165 rfl rfl rfl ?_
                  refine zr_dup (pc' := 167) dX8_add_166 rfl rfl ?_
                  refine zr_get (pc' := 170) dX8_add_167 rfl ps_26 kd_26 fl_X8_13 kc_8 (gv_26_1 _) ?_
                  refine zr_iconst (pc' := 171) dX8_add_170 rfl ?_
                  refine zr_iadd (pc' := 172) dX8_add_171 rfl ?_
                  refine zr_put (pc' := 175) dX8_add_172 rfl ps_26 kd_26 fl_X8_13 kc_8 rfl nf_26_1 rfl trivial (fun M65 hM1 => ?_)
                  have h := h M65 hM1
                  exact zr_return (x := 0) dX8_add_175 rfl (Nat.le_refl _) (Nat.le_refl _) (And.intro rfl h)
                · have h := h.2.2 hc
                  refine zr_aload_n (pc' := 146) (i := 0) dX8_add_145 rfl rfl rfl ?_
                  refine zr_iload_n (pc' := 147) (i := 1) dX8_add_146 rfl rfl rfl ?_
                  refine zr_put (pc' := 150) dX8_add_147 rfl ps_26 kd_26 fl_X8_33 kc_8 rfl nf_26_7 rfl trivial (fun M66 hM1 => ?_)
                  have h := h M66 hM1
                  refine zr_aload_n (pc' := 151) (i := 0) dX8_add_150 rfl rfl rfl ?_
                  refine zr_iload_n (pc' := 152) (i := 2) dX8_add_151 rfl rfl rfl ?_
                  refine zr_put (pc' := 155) dX8_add_152 rfl ps_26 kd_26 fl_X8_36 kc_8 rfl nf_26_8 rfl trivial (fun M67 hM1 => ?_)
                  have h := h M67 hM1
                  refine zr_aload_n (pc' := 156) (i := 0) dX8_add_155 rfl rfl rfl ?_
                  refine zr_dup (pc' := 157) dX8_add_156 rfl rfl ?_
                  refine zr_get (pc' := 160) dX8_add_157 rfl ps_26 kd_26 fl_X8_7 kc_8 (gv_26_0 _) ?_
                  refine zr_iload_n (pc' := 161) (i := 2) dX8_add_160 rfl rfl rfl ?_
                  refine zr_iadd (pc' := 162) dX8_add_161 rfl ?_
                  refine zr_put (pc' := 165) dX8_add_162 rfl ps_26 kd_26 fl_X8_7 kc_8 rfl nf_26_0 rfl trivial (fun M68 hM1 => ?_)
                  have h := h M68 hM1
                  refine zr_aload_n (pc' := 166) (i := 0) dX8_add_165 rfl rfl rfl ?_
                  refine zr_dup (pc' := 167) dX8_add_166 rfl rfl ?_
                  refine zr_get (pc' := 170) dX8_add_167 rfl ps_26 kd_26 fl_X8_13 kc_8 (gv_26_1 _) ?_
                  refine zr_iconst (pc' := 171) dX8_add_170 rfl ?_
                  refine zr_iadd (pc' := 172) dX8_add_171 rfl ?_
                  refine zr_put (pc' := 175) dX8_add_172 rfl ps_26 kd_26 fl_X8_13 kc_8 rfl nf_26_1 rfl trivial (fun M69 hM1 => ?_)
                  have h := h M69 hM1
                  exact zr_return (x := 0) dX8_add_175 rfl (Nat.le_refl _) (Nat.le_refl _) (And.intro rfl h)
          · have h := h.2.2 hc
            refine zr_iload_n (pc' := 92) (i := 1) dX8_add_91 rfl rfl rfl ?_
            refine zr_aload_n (pc' := 93) (i := 0) dX8_add_92 rfl rfl rfl ?_
            refine zr_get (pc' := 96) dX8_add_93 rfl ps_26 kd_26 fl_X8_27 kc_8 (gv_26_5 _) ?_
            refine zr_icmp_ne (tgt := 117) (pc' := 99) dX8_add_96 rfl rfl h.1.1 h.1.2 (fun hc => ?_) (fun hc => ?_)
            · have h := h.2.1 hc
              refine zr_iload_n (pc' := 118) (i := 3) dX8_add_117 rfl rfl rfl ?_
              refine zr_if_ne (tgt := 145) (pc' := 121) dX8_add_118 rfl rfl (zRd rfl) (fun hc => absurd hc (by decide)) (fun _ => ?_)
              refine zr_iload_n (pc' := 122) (i := 1) dX8_add_121 rfl rfl rfl ?_
              refine zr_aload_n (pc' := 123) (i := 0) dX8_add_122 rfl rfl rfl ?_
              refine zr_get (pc' := 126) dX8_add_123 rfl ps_26 kd_26 fl_X8_33 kc_8 (gv_26_7 _) ?_
              refine zr_icmp_gt (tgt := 145) (pc' := 129) dX8_add_126 rfl rfl h.1.1 h.1.2 (fun hc => ?_) (fun hc => ?_)
              · have h := h.2.1 hc
                refine zr_aload_n (pc' := 146) (i := 0) dX8_add_145 rfl rfl rfl ?_
                refine zr_iload_n (pc' := 147) (i := 1) dX8_add_146 rfl rfl rfl ?_
                refine zr_put (pc' := 150) dX8_add_147 rfl ps_26 kd_26 fl_X8_33 kc_8 rfl nf_26_7 rfl trivial (fun M70 hM1 => ?_)
                have h := h M70 hM1
                refine zr_aload_n (pc' := 151) (i := 0) dX8_add_150 rfl rfl rfl ?_
                refine zr_iload_n (pc' := 152) (i := 2) dX8_add_151 rfl rfl rfl ?_
                refine zr_put (pc' := 155) dX8_add_152 rfl ps_26 kd_26 fl_X8_36 kc_8 rfl nf_26_8 rfl trivial (fun M71 hM1 => ?_)
                have h := h M71 hM1
                refine zr_aload_n (pc' := 156) (i := 0) dX8_add_155 rfl rfl rfl ?_
                refine zr_dup (pc' := 157) dX8_add_156 rfl rfl ?_
                refine zr_get (pc' := 160) dX8_add_157 rfl ps_26 kd_26 fl_X8_7 kc_8 (gv_26_0 _) ?_
                refine zr_iload_n (pc' := 161) (i := 2) dX8_add_160 rfl rfl rfl ?_
                refine zr_iadd (pc' := 162) dX8_add_161 rfl ?_
                refine zr_put (pc' := 165) dX8_add_162 rfl ps_26 kd_26 fl_X8_7 kc_8 rfl nf_26_0 rfl trivial (fun M72 hM1 => ?_)
                have h := h M72 hM1
                refine zr_aload_n (pc' := 166) (i := 0) dX8_add_165 rfl rfl rfl ?_
                refine zr_dup (pc' := 167) dX8_add_166 rfl rfl ?_
                refine zr_get (pc' := 170) dX8_add_167 rfl ps_26 kd_26 fl_X8_13 kc_8 (gv_26_1 _) ?_
                refine zr_iconst (pc' := 171) dX8_add_170 rfl ?_
                refine zr_iadd (pc' := 172) dX8_add_171 rfl ?_
                refine zr_put (pc' := 175) dX8_add_172 rfl ps_26 kd_26 fl_X8_13 kc_8 rfl nf_26_1 rfl trivial (fun M73 hM1 => ?_)
                have h := h M73 hM1
                exact zr_return (x := 0) dX8_add_175 rfl (Nat.le_refl _) (Nat.le_refl _) (And.intro rfl h)
              · have h := h.2.2 hc
                refine zr_iload_n (pc' := 130) (i := 1) dX8_add_129 rfl rfl rfl ?_
                refine zr_aload_n (pc' := 131) (i := 0) dX8_add_130 rfl rfl rfl ?_
                refine zr_get (pc' := 134) dX8_add_131 rfl ps_26 kd_26 fl_X8_33 kc_8 (gv_26_7 _) ?_
                refine zr_icmp_ne (tgt := 155) (pc' := 137) dX8_add_134 rfl rfl h.1.1 h.1.2 (fun hc => ?_) (fun hc => ?_)
                · have h := h.2.1 hc
                  refine zr_aload_n (pc' := 156) (i := 0) dX8_add_155 rfl rfl rfl ?_
                  refine zr_dup (pc' := 157) dX8_add_156 rfl rfl ?_
                  refine zr_get (pc' := 160) dX8_add_157 rfl ps_26 kd_26 fl_X8_7 kc_8 (gv_26_0 _) ?_
                  refine zr_iload_n (pc' := 161) (i := 2) dX8_add_160 rfl rfl rfl ?_
                  refine zr_iadd (pc' := 162) dX8_add_161 rfl ?_
                  refine zr_put (pc' := 165) dX8_add_162 rfl ps_26 kd_26 fl_X8_7 kc_8 rfl nf_26_0 rfl trivial (fun M74 hM1 => ?_)
                  have h := h M74 hM1
                  refine zr_aload_n (pc' := 166) (i := 0) dX8_add_165 rfl rfl rfl ?_
                  refine zr_dup (pc' := 167) dX8_add_166 rfl rfl ?_
                  refine zr_get (pc' := 170) dX8_add_167 rfl ps_26 kd_26 fl_X8_13 kc_8 (gv_26_1 _) ?_
                  refine zr_iconst (pc' := 171) dX8_add_170 rfl ?_
                  refine zr_iadd (pc' := 172) dX8_add_171 rfl ?_
                  refine zr_put (pc' := 175) dX8_add_172 rfl ps_26 kd_26 fl_X8_13 kc_8 rfl nf_26_1 rfl trivial (fun M75 hM1 => ?_)
                  have h := h M75 hM1
                  exact zr_return (x := 0) dX8_add_175 rfl (Nat.le_refl _) (Nat.le_refl _) (And.intro rfl h)
                · have h := h.2.2 hc
                  refine zr_iload_n (pc' := 138) (i := 2) dX8_add_137 rfl rfl rfl ?_
                  refine zr_aload_n (pc' := 139) (i := 0) dX8_add_138 rfl rfl rfl ?_
                  refine zr_get (pc' := 142) dX8_add_139 rfl ps_26 kd_26 fl_X8_36 kc_8 (gv_26_8 _) ?_
                  refine zr_icmp_le (tgt := 155) (pc' := 145) dX8_add_142 rfl rfl h.1.1 h.1.2 (fun hc => ?_) (fun hc => ?_)
                  · have h := h.2.1 hc
                    refine zr_aload_n (pc' := 156) (i := 0) dX8_add_155 rfl rfl rfl ?_
                    refine zr_dup (pc' := 157) dX8_add_156 rfl rfl ?_
                    refine zr_get (pc' := 160) dX8_add_157 rfl ps_26 kd_26 fl_X8_7 kc_8 (gv_26_0 _) ?_
                    refine zr_iload_n (pc' := 161) (i := 2) dX8_add_160 rfl rfl rfl ?_
                    refine zr_iadd (pc' := 162) dX8_add_161 rfl ?_
                    refine zr_put (pc' := 165) dX8_add_162 rfl ps_26 kd_26 fl_X8_7 kc_8 rfl nf_26_0 rfl trivial (fun M76 hM1 => ?_)
                    have h := h M76 hM1
                    refine zr_aload_n (pc' := 166) (i := 0) dX8_add_165 rfl rfl rfl ?_
                    refine zr_dup (pc' := 167) dX8_add_166 rfl rfl ?_
                    refine zr_get (pc' := 170) dX8_add_167 rfl ps_26 kd_26 fl_X8_13 kc_8 (gv_26_1 _) ?_
                    refine zr_iconst (pc' := 171) dX8_add_170 rfl ?_
                    refine zr_iadd (pc' := 172) dX8_add_171 rfl ?_
                    refine zr_put (pc' := 175) dX8_add_172 rfl ps_26 kd_26 fl_X8_13 kc_8 rfl nf_26_1 rfl trivial (fun M77 hM1 => ?_)
                    have h := h M77 hM1
                    exact zr_return (x := 0) dX8_add_175 rfl (Nat.le_refl _) (Nat.le_refl _) (And.intro rfl h)
                  · have h := h.2.2 hc
                    refine zr_aload_n (pc' := 146) (i := 0) dX8_add_145 rfl rfl rfl ?_
                    refine zr_iload_n (pc' := 147) (i := 1) dX8_add_146 rfl rfl rfl ?_
                    refine zr_put (pc' := 150) dX8_add_147 rfl ps_26 kd_26 fl_X8_33 kc_8 rfl nf_26_7 rfl trivial (fun M78 hM1 => ?_)
                    have h := h M78 hM1
                    refine zr_aload_n (pc' := 151) (i := 0) dX8_add_150 rfl rfl rfl ?_
                    refine zr_iload_n (pc' := 152) (i := 2) dX8_add_151 rfl rfl rfl ?_
                    refine zr_put (pc' := 155) dX8_add_152 rfl ps_26 kd_26 fl_X8_36 kc_8 rfl nf_26_8 rfl trivial (fun M79 hM1 => ?_)
                    have h := h M79 hM1
                    refine zr_aload_n (pc' := 156) (i := 0) dX8_add_155 rfl rfl rfl ?_
                    refine zr_dup (pc' := 157) dX8_add_156 rfl rfl ?_
                    refine zr_get (pc' := 160) dX8_add_157 rfl ps_26 kd_26 fl_X8_7 kc_8 (gv_26_0 _) ?_
                    refine zr_iload_n (pc' := 161) (i := 2) dX8_add_160 rfl rfl rfl ?_
                    refine zr_iadd (pc' := 162) dX8_add_161 rfl ?_
                    refine zr_put (pc' := 165) dX8_add_162 rfl ps_26 kd_26 fl_X8_7 kc_8 rfl nf_26_0 rfl trivial (fun M80 hM1 => ?_)
                    have h := h M80 hM1
                    refine zr_aload_n (pc' := 166) (i := 0) dX8_add_165 rfl rfl rfl ?_
                    refine zr_dup (pc' := 167) dX8_add_166 rfl rfl ?_
                    refine zr_get (pc' := 170) dX8_add_167 rfl ps_26 kd_26 fl_X8_13 kc_8 (gv_26_1 _) ?_
                    refine zr_iconst (pc' := 171) dX8_add_170 rfl ?_
                    refine zr_iadd (pc' := 172) dX8_add_171 rfl ?_
                    refine zr_put (pc' := 175) dX8_add_172 rfl ps_26 kd_26 fl_X8_13 kc_8 rfl nf_26_1 rfl trivial (fun M81 hM1 => ?_)
                    have h := h M81 hM1
                    exact zr_return (x := 0) dX8_add_175 rfl (Nat.le_refl _) (Nat.le_refl _) (And.intro rfl h)
            · have h := h.2.2 hc
              refine zr_iload_n (pc' := 100) (i := 2) dX8_add_99 rfl rfl rfl ?_
              refine zr_aload_n (pc' := 101) (i := 0) dX8_add_100 rfl rfl rfl ?_
              refine zr_get (pc' := 104) dX8_add_101 rfl ps_26 kd_26 fl_X8_30 kc_8 (gv_26_6 _) ?_
              refine zr_icmp_le (tgt := 117) (pc' := 107) dX8_add_104 rfl rfl h.1.1 h.1.2 (fun hc => ?_) (fun hc => ?_)
              · have h := h.2.1 hc
                refine zr_iload_n (pc' := 118) (i := 3) dX8_add_117 rfl rfl rfl ?_
                refine zr_if_ne (tgt := 145) (pc' := 121) dX8_add_118 rfl rfl (zRd rfl) (fun hc => absurd hc (by decide)) (fun _ => ?_)
                refine zr_iload_n (pc' := 122) (i := 1) dX8_add_121 rfl rfl rfl ?_
                refine zr_aload_n (pc' := 123) (i := 0) dX8_add_122 rfl rfl rfl ?_
                refine zr_get (pc' := 126) dX8_add_123 rfl ps_26 kd_26 fl_X8_33 kc_8 (gv_26_7 _) ?_
                refine zr_icmp_gt (tgt := 145) (pc' := 129) dX8_add_126 rfl rfl h.1.1 h.1.2 (fun hc => ?_) (fun hc => ?_)
                · have h := h.2.1 hc
                  refine zr_aload_n (pc' := 146) (i := 0) dX8_add_145 rfl rfl rfl ?_
                  refine zr_iload_n (pc' := 147) (i := 1) dX8_add_146 rfl rfl rfl ?_
                  refine zr_put (pc' := 150) dX8_add_147 rfl ps_26 kd_26 fl_X8_33 kc_8 rfl nf_26_7 rfl trivial (fun M82 hM1 => ?_)
                  have h := h M82 hM1
                  refine zr_aload_n (pc' := 151) (i := 0) dX8_add_150 rfl rfl rfl ?_
                  refine zr_iload_n (pc' := 152) (i := 2) dX8_add_151 rfl rfl rfl ?_
                  refine zr_put (pc' := 155) dX8_add_152 rfl ps_26 kd_26 fl_X8_36 kc_8 rfl nf_26_8 rfl trivial (fun M83 hM1 => ?_)
                  have h := h M83 hM1
                  refine zr_aload_n (pc' := 156) (i := 0) dX8_add_155 rfl rfl rfl ?_
                  refine zr_dup (pc' := 157) dX8_add_156 rfl rfl ?_
                  refine zr_get (pc' := 160) dX8_add_157 rfl ps_26 kd_26 fl_X8_7 kc_8 (gv_26_0 _) ?_
                  refine zr_iload_n (pc' := 161) (i := 2) dX8_add_160 rfl rfl rfl ?_
                  refine zr_iadd (pc' := 162) dX8_add_161 rfl ?_
                  refine zr_put (pc' := 165) dX8_add_162 rfl ps_26 kd_26 fl_X8_7 kc_8 rfl nf_26_0 rfl trivial (fun M84 hM1 => ?_)
                  have h := h M84 hM1
                  refine zr_aload_n (pc' := 166) (i := 0) dX8_add_165 rfl rfl rfl ?_
                  refine zr_dup (pc' := 167) dX8_add_166 rfl rfl ?_
                  refine zr_get (pc' := 170) dX8_add_167 rfl ps_26 kd_26 fl_X8_13 kc_8 (gv_26_1 _) ?_
                  refine zr_iconst (pc' := 171) dX8_add_170 rfl ?_
                  refine zr_iadd (pc' := 172) dX8_add_171 rfl ?_
                  refine zr_put (pc' := 175) dX8_add_172 rfl ps_26 kd_26 fl_X8_13 kc_8 rfl nf_26_1 rfl trivial (fun M85 hM1 => ?_)
                  have h := h M85 hM1
                  exact zr_return (x := 0) dX8_add_175 rfl (Nat.le_refl _) (Nat.le_refl _) (And.intro rfl h)
                · have h := h.2.2 hc
                  refine zr_iload_n (pc' := 130) (i := 1) dX8_add_129 rfl rfl rfl ?_
                  refine zr_aload_n (pc' := 131) (i := 0) dX8_add_130 rfl rfl rfl ?_
                  refine zr_get (pc' := 134) dX8_add_131 rfl ps_26 kd_26 fl_X8_33 kc_8 (gv_26_7 _) ?_
                  refine zr_icmp_ne (tgt := 155) (pc' := 137) dX8_add_134 rfl rfl h.1.1 h.1.2 (fun hc => ?_) (fun hc => ?_)
                  · have h := h.2.1 hc
                    refine zr_aload_n (pc' := 156) (i := 0) dX8_add_155 rfl rfl rfl ?_
                    refine zr_dup (pc' := 157) dX8_add_156 rfl rfl ?_
                    refine zr_get (pc' := 160) dX8_add_157 rfl ps_26 kd_26 fl_X8_7 kc_8 (gv_26_0 _) ?_
                    refine zr_iload_n (pc' := 161) (i := 2) dX8_add_160 rfl rfl rfl ?_
                    refine zr_iadd (pc' := 162) dX8_add_161 rfl ?_
                    refine zr_put (pc' := 165) dX8_add_162 rfl ps_26 kd_26 fl_X8_7 kc_8 rfl nf_26_0 rfl trivial (fun M86 hM1 => ?_)
                    have h := h M86 hM1
                    refine zr_aload_n (pc' := 166) (i := 0) dX8_add_165 rfl rfl rfl ?_
                    refine zr_dup (pc' := 167) dX8_add_166 rfl rfl ?_
                    refine zr_get (pc' := 170) dX8_add_167 rfl ps_26 kd_26 fl_X8_13 kc_8 (gv_26_1 _) ?_
                    refine zr_iconst (pc' := 171) dX8_add_170 rfl ?_
                    refine zr_iadd (pc' := 172) dX8_add_171 rfl ?_
                    refine zr_put (pc' := 175) dX8_add_172 rfl ps_26 kd_26 fl_X8_13 kc_8 rfl nf_26_1 rfl trivial (fun M87 hM1 => ?_)
                    have h := h M87 hM1
                    exact zr_return (x := 0) dX8_add_175 rfl (Nat.le_refl _) (Nat.le_refl _) (And.intro rfl h)
                  · have h := h.2.2 hc
                    refine zr_iload_n (pc' := 138) (i := 2) dX8_add_137 rfl rfl rfl ?_
                    refine zr_aload_n (pc' := 139) (i := 0) dX8_add_138 rfl rfl rfl ?_
                    refine zr_get (pc' := 142) dX8_add_139 rfl ps_26 kd_26 fl_X8_36 kc_8 (gv_26_8 _) ?_
                    refine zr_icmp_le (tgt := 155) (pc' := 145) dX8_add_142 rfl rfl h.1.1 h.1.2 (fun hc => ?_) (fun hc => ?_)
                    · have h := h.2.1 hc
                      refine zr_aload_n (pc' := 156) (i := 0) dX8_add_155 rfl rfl rfl ?_
                      refine zr_dup (pc' := 157) dX8_add_156 rfl rfl ?_
                      refine zr_get (pc' := 160) dX8_add_157 rfl ps_26 kd_26 fl_X8_7 kc_8 (gv_26_0 _) ?_
                      refine zr_iload_n (pc' := 161) (i := 2) dX8_add_160 rfl rfl rfl ?_
                      refine zr_iadd (pc' := 162) dX8_add_161 rfl ?_
                      refine zr_put (pc' := 165) dX8_add_162 rfl ps_26 kd_26 fl_X8_7 kc_8 rfl nf_26_0 rfl trivial (fun M88 hM1 => ?_)
                      have h := h M88 hM1
                      refine zr_aload_n (pc' := 166) (i := 0) dX8_add_165 rfl rfl rfl ?_
                      refine zr_dup (pc' := 167) dX8_add_166 rfl rfl ?_
                      refine zr_get (pc' := 170) dX8_add_167 rfl ps_26 kd_26 fl_X8_13 kc_8 (gv_26_1 _) ?_
                      refine zr_iconst (pc' := 171) dX8_add_170 rfl ?_
                      refine zr_iadd (pc' := 172) dX8_add_171 rfl ?_
                      refine zr_put (pc' := 175) dX8_add_172 rfl ps_26 kd_26 fl_X8_13 kc_8 rfl nf_26_1 rfl trivial (fun M89 hM1 => ?_)
                      have h := h M89 hM1
                      exact zr_return (x := 0) dX8_add_175 rfl (Nat.le_refl _) (Nat.le_refl _) (And.intro rfl h)
                    · have h := h.2.2 hc
                      refine zr_aload_n (pc' := 146) (i := 0) dX8_add_145 rfl rfl rfl ?_
                      refine zr_iload_n (pc' := 147) (i := 1) dX8_add_146 rfl rfl rfl ?_
                      refine zr_put (pc' := 150) dX8_add_147 rfl ps_26 kd_26 fl_X8_33 kc_8 rfl nf_26_7 rfl trivial (fun M90 hM1 => ?_)
                      have h := h M90 hM1
                      refine zr_aload_n (pc' := 151) (i := 0) dX8_add_150 rfl rfl rfl ?_
                      refine zr_iload_n (pc' := 152) (i := 2) dX8_add_151 rfl rfl rfl ?_
                      refine zr_put (pc' := 155) dX8_add_152 rfl ps_26 kd_26 fl_X8_36 kc_8 rfl nf_26_8 rfl trivial (fun M91 hM1 => ?_)
                      have h := h M91 hM1
                      refine zr_aload_n (pc' := 156) (i := 0) dX8_add_155 rfl rfl rfl ?_
                      refine zr_dup (pc' := 157) dX8_add_156 rfl rfl ?_
                      refine zr_get (pc' := 160) dX8_add_157 rfl ps_26 kd_26 fl_X8_7 kc_8 (gv_26_0 _) ?_
                      refine zr_iload_n (pc' := 161) (i := 2) dX8_add_160 rfl rfl rfl ?_
                      refine zr_iadd (pc' := 162) dX8_add_161 rfl ?_
                      refine zr_put (pc' := 165) dX8_add_162 rfl ps_26 kd_26 fl_X8_7 kc_8 rfl nf_26_0 rfl trivial (fun M92 hM1 => ?_)
                      have h := h M92 hM1
                      refine zr_aload_n (pc' := 166) (i := 0) dX8_add_165 rfl rfl rfl ?_
                      refine zr_dup (pc' := 167) dX8_add_166 rfl rfl ?_
                      refine zr_get (pc' := 170) dX8_add_167 rfl ps_26 kd_26 fl_X8_13 kc_8 (gv_26_1 _) ?_
                      refine zr_iconst (pc' := 171) dX8_add_170 rfl ?_
                      refine zr_iadd (pc' := 172) dX8_add_171 rfl ?_
                      refine zr_put (pc' := 175) dX8_add_172 rfl ps_26 kd_26 fl_X8_13 kc_8 rfl nf_26_1 rfl trivial (fun M93 hM1 => ?_)
                      have h := h M93 hM1
                      exact zr_return (x := 0) dX8_add_175 rfl (Nat.le_refl _) (Nat.le_refl _) (And.intro rfl h)
              · have h := h.2.2 hc
                refine zr_aload_n (pc' := 108) (i := 0) dX8_add_107 rfl rfl rfl ?_
                refine zr_iload_n (pc' := 109) (i := 1) dX8_add_108 rfl rfl rfl ?_
                refine zr_put (pc' := 112) dX8_add_109 rfl ps_26 kd_26 fl_X8_27 kc_8 rfl nf_26_5 rfl trivial (fun M94 hM1 => ?_)
                have h := h M94 hM1
                refine zr_aload_n (pc' := 113) (i := 0) dX8_add_112 rfl rfl rfl ?_
                refine zr_iload_n (pc' := 114) (i := 2) dX8_add_113 rfl rfl rfl ?_
                refine zr_put (pc' := 117) dX8_add_114 rfl ps_26 kd_26 fl_X8_30 kc_8 rfl nf_26_6 rfl trivial (fun M95 hM1 => ?_)
                have h := h M95 hM1
                refine zr_iload_n (pc' := 118) (i := 3) dX8_add_117 rfl rfl rfl ?_
                refine zr_if_ne (tgt := 145) (pc' := 121) dX8_add_118 rfl rfl (zRd rfl) (fun hc => absurd hc (by decide)) (fun _ => ?_)
                refine zr_iload_n (pc' := 122) (i := 1) dX8_add_121 rfl rfl rfl ?_
                refine zr_aload_n (pc' := 123) (i := 0) dX8_add_122 rfl rfl rfl ?_
                refine zr_get (pc' := 126) dX8_add_123 rfl ps_26 kd_26 fl_X8_33 kc_8 (gv_26_7 _) ?_
                refine zr_icmp_gt (tgt := 145) (pc' := 129) dX8_add_126 rfl rfl h.1.1 h.1.2 (fun hc => ?_) (fun hc => ?_)
                · have h := h.2.1 hc
                  refine zr_aload_n (pc' := 146) (i := 0) dX8_add_145 rfl rfl rfl ?_
                  refine zr_iload_n (pc' := 147) (i := 1) dX8_add_146 rfl rfl rfl ?_
                  refine zr_put (pc' := 150) dX8_add_147 rfl ps_26 kd_26 fl_X8_33 kc_8 rfl nf_26_7 rfl trivial (fun M96 hM1 => ?_)
                  have h := h M96 hM1
                  refine zr_aload_n (pc' := 151) (i := 0) dX8_add_150 rfl rfl rfl ?_
                  refine zr_iload_n (pc' := 152) (i := 2) dX8_add_151 rfl rfl rfl ?_
                  refine zr_put (pc' := 155) dX8_add_152 rfl ps_26 kd_26 fl_X8_36 kc_8 rfl nf_26_8 rfl trivial (fun M97 hM1 => ?_)
                  have h := h M97 hM1
                  refine zr_aload_n (pc' := 156) (i := 0) dX8_add_155 rfl rfl rfl ?_
                  refine zr_dup (pc' := 157) dX8_add_156 rfl rfl ?_
                  refine zr_get (pc' := 160) dX8_add_157 rfl ps_26 kd_26 fl_X8_7 kc_8 (gv_26_0 _) ?_
                  refine zr_iload_n (pc' := 161) (i := 2) dX8_add_160 rfl rfl rfl ?_
                  refine zr_iadd (pc' := 162) dX8_add_161 rfl ?_
                  refine zr_put (pc' := 165) dX8_add_162 rfl ps_26 kd_26 fl_X8_7 kc_8 rfl nf_26_0 rfl trivial (fun M98 hM1 => ?_)
                  have h := h M98 hM1
                  refine zr_aload_n (pc' := 166) (i := 0) dX8_add_165 rfl rfl rfl ?_
                  refine zr_dup (pc' := 167) dX8_add_166 rfl rfl ?_
                  refine zr_get (pc' := 170) dX8_add_167 rfl ps_26 kd_26 fl_X8_13 kc_8 (gv_26_1 _) ?_
                  refine zr_iconst (pc' := 171) dX8_add_170 rfl ?_
                  refine zr_iadd (pc' := 172) dX8_add_171 rfl ?_
                  refine zr_put (pc' := 175) dX8_add_172 rfl ps_26 kd_26 fl_X8_13 kc_8 rfl nf_26_1 rfl trivial (fun M99 hM1 => ?_)
                  have h := h M99 hM1
                  exact zr_return (x := 0) dX8_add_175 rfl (Nat.le_refl _) (Nat.le_refl _) (And.intro rfl h)
                · have h := h.2.2 hc
                  refine zr_iload_n (pc' := 130) (i := 1) dX8_add_129 rfl rfl rfl ?_
                  refine zr_aload_n (pc' := 131) (i := 0) dX8_add_130 rfl rfl rfl ?_
                  refine zr_get (pc' := 134) dX8_add_131 rfl ps_26 kd_26 fl_X8_33 kc_8 (gv_26_7 _) ?_
                  refine zr_icmp_ne (tgt := 155) (pc' := 137) dX8_add_134 rfl rfl h.1.1 h.1.2 (fun hc => ?_) (fun hc => ?_)
                  · have h := h.2.1 hc
                    refine zr_aload_n (pc' := 156) (i := 0) dX8_add_155 rfl rfl rfl ?_
                    refine zr_dup (pc' := 157) dX8_add_156 rfl rfl ?_
                    refine zr_get (pc' := 160) dX8_add_157 rfl ps_26 kd_26 fl_X8_7 kc_8 (gv_26_0 _) ?_
                    refine zr_iload_n (pc' := 161) (i := 2) dX8_add_160 rfl rfl rfl ?_
                    refine zr_iadd (pc' := 162) dX8_add_161 rfl ?_
                    refine zr_put (pc' := 165) dX8_add_162 rfl ps_26 kd_26 fl_X8_7 kc_8 rfl nf_26_0 rfl trivial (fun M100 hM1 => ?_)
                    have h := h M100 hM1
                    refine zr_aload_n (pc' := 166) (i := 0) dX8_add_165 rfl rfl rfl ?_
                    refine zr_dup (pc' := 167) dX8_add_166 rfl rfl ?_
                    refine zr_get (pc' := 170) dX8_add_167 rfl ps_26 kd_26 fl_X8_13 kc_8 (gv_26_1 _) ?_
                    refine zr_iconst (pc' := 171) dX8_add_170 rfl ?_
                    refine zr_iadd (pc' := 172) dX8_add_171 rfl ?_
                    refine zr_put (pc' := 175) dX8_add_172 rfl ps_26 kd_26 fl_X8_13 kc_8 rfl nf_26_1 rfl trivial (fun M101 hM1 => ?_)
                    have h := h M101 hM1
                    exact zr_return (x := 0) dX8_add_175 rfl (Nat.le_refl _) (Nat.le_refl _) (And.intro rfl h)
                  · have h := h.2.2 hc
                    refine zr_iload_n (pc' := 138) (i := 2) dX8_add_137 rfl rfl rfl ?_
                    refine zr_aload_n (pc' := 139) (i := 0) dX8_add_138 rfl rfl rfl ?_
                    refine zr_get (pc' := 142) dX8_add_139 rfl ps_26 kd_26 fl_X8_36 kc_8 (gv_26_8 _) ?_
                    refine zr_icmp_le (tgt := 155) (pc' := 145) dX8_add_142 rfl rfl h.1.1 h.1.2 (fun hc => ?_) (fun hc => ?_)
                    · have h := h.2.1 hc
                      refine zr_aload_n (pc' := 156) (i := 0) dX8_add_155 rfl rfl rfl ?_
                      refine zr_dup (pc' := 157) dX8_add_156 rfl rfl ?_
                      refine zr_get (pc' := 160) dX8_add_157 rfl ps_26 kd_26 fl_X8_7 kc_8 (gv_26_0 _) ?_
                      refine zr_iload_n (pc' := 161) (i := 2) dX8_add_160 rfl rfl rfl ?_
                      refine zr_iadd (pc' := 162) dX8_add_161 rfl ?_
                      refine zr_put (pc' := 165) dX8_add_162 rfl ps_26 kd_26 fl_X8_7 kc_8 rfl nf_26_0 rfl trivial (fun M102 hM1 => ?_)
                      have h := h M102 hM1
                      refine zr_aload_n (pc' := 166) (i := 0) dX8_add_165 rfl rfl rfl ?_
                      refine zr_dup (pc' := 167) dX8_add_166 rfl rfl ?_
                      refine zr_get (pc' := 170) dX8_add_167 rfl ps_26 kd_26 fl_X8_13 kc_8 (gv_26_1 _) ?_
                      refine zr_iconst (pc' := 171) dX8_add_170 rfl ?_
                      refine zr_iadd (pc' := 172) dX8_add_171 rfl ?_
                      refine zr_put (pc' := 175) dX8_add_172 rfl ps_26 kd_26 fl_X8_13 kc_8 rfl nf_26_1 rfl trivial (fun M103 hM1 => ?_)
                      have h := h M103 hM1
                      exact zr_return (x := 0) dX8_add_175 rfl (Nat.le_refl _) (Nat.le_refl _) (And.intro rfl h)
                    · have h := h.2.2 hc
                      refine zr_aload_n (pc' := 146) (i := 0) dX8_add_145 rfl rfl rfl ?_
                      refine zr_iload_n (pc' := 147) (i := 1) dX8_add_146 rfl rfl rfl ?_
                      refine zr_put (pc' := 150) dX8_add_147 rfl ps_26 kd_26 fl_X8_33 kc_8 rfl nf_26_7 rfl trivial (fun M104 hM1 => ?_)
                      have h := h M104 hM1
                      refine zr_aload_n (pc' := 151) (i := 0) dX8_add_150 rfl rfl rfl ?_
                      refine zr_iload_n (pc' := 152) (i := 2) dX8_add_151 rfl rfl rfl ?_
                      refine zr_put (pc' := 155) dX8_add_152 rfl ps_26 kd_26 fl_X8_36 kc_8 rfl nf_26_8 rfl trivial (fun M105 hM1 => ?_)
                      have h := h M105 hM1
                      refine zr_aload_n (pc' := 156) (i := 0) dX8_add_155 rfl rfl rfl ?_
                      refine zr_dup (pc' := 157) dX8_add_156 rfl rfl ?_
                      refine zr_get (pc' := 160) dX8_add_157 rfl ps_26 kd_26 fl_X8_7 kc_8 (gv_26_0 _) ?_
                      refine zr_iload_n (pc' := 161) (i := 2) dX8_add_160 rfl rfl rfl ?_
                      refine zr_iadd (pc' := 162) dX8_add_161 rfl ?_
                      refine zr_put (pc' := 165) dX8_add_162 rfl ps_26 kd_26 fl_X8_7 kc_8 rfl nf_26_0 rfl trivial (fun M106 hM1 => ?_)
                      have h := h M106 hM1
                      refine zr_aload_n (pc' := 166) (i := 0) dX8_add_165 rfl rfl rfl ?_
                      refine zr_dup (pc' := 167) dX8_add_166 rfl rfl ?_
                      refine zr_get (pc' := 170) dX8_add_167 rfl ps_26 kd_26 fl_X8_13 kc_8 (gv_26_1 _) ?_
                      refine zr_iconst (pc' := 171) dX8_add_170 rfl ?_
                      refine zr_iadd (pc' := 172) dX8_add_171 rfl ?_
                      refine zr_put (pc' := 175) dX8_add_172 rfl ps_26 kd_26 fl_X8_13 kc_8 rfl nf_26_1 rfl trivial (fun M107 hM1 => ?_)
                      have h := h M107 hM1
                      exact zr_return (x := 0) dX8_add_175 rfl (Nat.le_refl _) (Nat.le_refl _) (And.intro rfl h)
      · have h := h.2.2 hc
        refine zr_iload_n (pc' := 45) (i := 2) dX8_add_44 rfl rfl rfl ?_
        refine zr_goto (pc' := 52) dX8_add_45 rfl ?_
        refine zr_put (pc' := 55) dX8_add_52 rfl ps_26 kd_26 fl_X8_21 kc_8 rfl nf_26_3 rfl trivial (fun M108 hM1 => ?_)
        have h := h M108 hM1
        refine zr_aload_n (pc' := 56) (i := 0) dX8_add_55 rfl rfl rfl ?_
        refine zr_iload_n (pc' := 57) (i := 3) dX8_add_56 rfl rfl rfl ?_
        refine zr_if_ne (tgt := 68) (pc' := 60) dX8_add_57 rfl rfl (zRd rfl) (fun hc => absurd hc (by decide)) (fun _ => ?_)
        refine zr_iload_n (pc' := 61) (i := 2) dX8_add_60 rfl rfl rfl ?_
        refine zr_aload_n (pc' := 62) (i := 0) dX8_add_61 rfl rfl rfl ?_
        refine zr_get (pc' := 65) dX8_add_62 rfl ps_26 kd_26 fl_X8_24 kc_8 (gv_26_4 _) ?_
        refine zr_icmp_ge (tgt := 72) (pc' := 68) dX8_add_65 rfl rfl h.1.1 h.1.2 (fun hc => ?_) (fun hc => ?_)
        · have h := h.2.1 hc
          refine zr_aload_n (pc' := 73) (i := 0) dX8_add_72 rfl rfl rfl ?_
          refine zr_get (pc' := 76) dX8_add_73 rfl ps_26 kd_26 fl_X8_24 kc_8 (gv_26_4 _) ?_
          refine zr_put (pc' := 79) dX8_add_76 rfl ps_26 kd_26 fl_X8_24 kc_8 rfl nf_26_4 rfl trivial (fun M109 hM1 => ?_)
          have h := h M109 hM1
          refine zr_iload_n (pc' := 80) (i := 3) dX8_add_79 rfl rfl rfl ?_
          refine zr_if_ne (tgt := 107) (pc' := 83) dX8_add_80 rfl rfl (zRd rfl) (fun hc => absurd hc (by decide)) (fun _ => ?_)
          refine zr_iload_n (pc' := 84) (i := 1) dX8_add_83 rfl rfl rfl ?_
          refine zr_aload_n (pc' := 85) (i := 0) dX8_add_84 rfl rfl rfl ?_
          refine zr_get (pc' := 88) dX8_add_85 rfl ps_26 kd_26 fl_X8_27 kc_8 (gv_26_5 _) ?_
          refine zr_icmp_lt (tgt := 107) (pc' := 91) dX8_add_88 rfl rfl h.1.1 h.1.2 (fun hc => ?_) (fun hc => ?_)
          · have h := h.2.1 hc
            refine zr_aload_n (pc' := 108) (i := 0) dX8_add_107 rfl rfl rfl ?_
            refine zr_iload_n (pc' := 109) (i := 1) dX8_add_108 rfl rfl rfl ?_
            refine zr_put (pc' := 112) dX8_add_109 rfl ps_26 kd_26 fl_X8_27 kc_8 rfl nf_26_5 rfl trivial (fun M110 hM1 => ?_)
            have h := h M110 hM1
            refine zr_aload_n (pc' := 113) (i := 0) dX8_add_112 rfl rfl rfl ?_
            refine zr_iload_n (pc' := 114) (i := 2) dX8_add_113 rfl rfl rfl ?_
            refine zr_put (pc' := 117) dX8_add_114 rfl ps_26 kd_26 fl_X8_30 kc_8 rfl nf_26_6 rfl trivial (fun M111 hM1 => ?_)
            have h := h M111 hM1
            refine zr_iload_n (pc' := 118) (i := 3) dX8_add_117 rfl rfl rfl ?_
            refine zr_if_ne (tgt := 145) (pc' := 121) dX8_add_118 rfl rfl (zRd rfl) (fun hc => absurd hc (by decide)) (fun _ => ?_)
            refine zr_iload_n (pc' := 122) (i := 1) dX8_add_121 rfl rfl rfl ?_
            refine zr_aload_n (pc' := 123) (i := 0) dX8_add_122 rfl rfl rfl ?_
            refine zr_get (pc' := 126) dX8_add_123 rfl ps_26 kd_26 fl_X8_33 kc_8 (gv_26_7 _) ?_
            refine zr_icmp_gt (tgt := 145) (pc' := 129) dX8_add_126 rfl rfl h.1.1 h.1.2 (fun hc => ?_) (fun hc => ?_)
            · have h := h.2.1 hc
              refine zr_aload_n (pc' := 146) (i := 0) dX8_add_145 rfl rfl rfl ?_
              refine zr_iload_n (pc' := 147) (i := 1) dX8_add_146 rfl rfl rfl ?_
              refine zr_put (pc' := 150) dX8_add_147 rfl ps_26 kd_26 fl_X8_33 kc_8 rfl nf_26_7 rfl trivial (fun M112 hM1 => ?_)
              have h := h M112 hM1
              refine zr_aload_n (pc' := 151) (i := 0) dX8_add_150 rfl rfl rfl ?_
              refine zr_iload_n (pc' := 152) (i := 2) dX8_add_151 rfl rfl rfl ?_
              refine zr_put (pc' := 155) dX8_add_152 rfl ps_26 kd_26 fl_X8_36 kc_8 rfl nf_26_8 rfl trivial (fun M113 hM1 => ?_)
              have h := h M113 hM1
              refine zr_aload_n (pc' := 156) (i := 0) dX8_add_155 rfl rfl rfl ?_
              refine zr_dup (pc' := 157) dX8_add_156 rfl rfl ?_
              refine zr_get (pc' := 160) dX8_add_157 rfl ps_26 kd_26 fl_X8_7 kc_8 (gv_26_0 _) ?_
              refine zr_iload_n (pc' := 161) (i := 2) dX8_add_160 rfl rfl rfl ?_
              refine zr_iadd (pc' := 162) dX8_add_161 rfl ?_
              refine zr_put (pc' := 165) dX8_add_162 rfl ps_26 kd_26 fl_X8_7 kc_8 rfl nf_26_0 rfl trivial (fun M114 hM1 => ?_)
              have h := h M114 hM1
              refine zr_aload_n (pc' := 166) (i := 0) dX8_add_165 rfl rfl rfl ?_
              refine zr_dup (pc' := 167) dX8_add_166 rfl rfl ?_
              refine zr_get (pc' := 170) dX8_add_167 rfl ps_26 kd_26 fl_X8_13 kc_8 (gv_26_1 _) ?_
              refine zr_iconst (pc' := 171) dX8_add_170 rfl ?_
              refine zr_iadd (pc' := 172) dX8_add_171 rfl ?_
              refine zr_put (pc' := 175) dX8_add_172 rfl ps_26 kd_26 fl_X8_13 kc_8 rfl nf_26_1 rfl trivial (fun M115 hM1 => ?_)
              have h := h M115 hM1
              exact zr_return (x := 0) dX8_add_175 rfl (Nat.le_refl _) (Nat.le_refl _) (And.intro rfl h)
            · have h := h.2.2 hc
              refine zr_iload_n (pc' := 130) (i := 1) dX8_add_129 rfl rfl rfl ?_
              refine zr_aload_n (pc' := 131) (i := 0) dX8_add_130 rfl rfl rfl ?_
              refine zr_get (pc' := 134) dX8_add_131 rfl ps_26 kd_26 fl_X8_33 kc_8 (gv_26_7 _) ?_
              refine zr_icmp_ne (tgt := 155) (pc' := 137) dX8_add_134 rfl rfl h.1.1 h.1.2 (fun hc => ?_) (fun hc => ?_)
              · have h := h.2.1 hc
                refine zr_aload_n (pc' := 156) (i := 0) dX8_add_155 rfl rfl rfl ?_
                refine zr_dup (pc' := 157) dX8_add_156 rfl rfl ?_
                refine zr_get (pc' := 160) dX8_add_157 rfl ps_26 kd_26 fl_X8_7 kc_8 (gv_26_0 _) ?_
                refine zr_iload_n (pc' := 161) (i := 2) dX8_add_160 rfl rfl rfl ?_
                refine zr_iadd (pc' := 162) dX8_add_161 rfl ?_
                refine zr_put (pc' := 165) dX8_add_162 rfl ps_26 kd_26 fl_X8_7 kc_8 rfl nf_26_0 rfl trivial (fun M116 hM1 => ?_)
                have h := h M116 hM1
                refine zr_aload_n (pc' := 166) (i := 0) dX8_add_165 rfl rfl rfl ?_
                refine zr_dup (pc' := 167) dX8_add_166 rfl rfl ?_
                refine zr_get (pc' := 170) dX8_add_167 rfl ps_26 kd_26 fl_X8_13 kc_8 (gv_26_1 _) ?_
                refine zr_iconst (pc' := 171) dX8_add_170 rfl ?_
                refine zr_iadd (pc' := 172) dX8_add_171 rfl ?_
                refine zr_put (pc' := 175) dX8_add_172 rfl ps_26 kd_26 fl_X8_13 kc_8 rfl nf_26_1 rfl trivial (fun M117 hM1 => ?_)
                have h := h M117 hM1
                exact zr_return (x := 0) dX8_add_175 rfl (Nat.le_refl _) (Nat.le_refl _) (And.intro rfl h)
              · have h := h.2.2 hc
                refine zr_iload_n (pc' := 138) (i := 2) dX8_add_137 rfl rfl rfl ?_
                refine zr_aload_n (pc' := 139) (i := 0) dX8_add_138 rfl rfl rfl ?_
                refine zr_get (pc' := 142) dX8_add_139 rfl ps_26 kd_26 fl_X8_36 kc_8 (gv_26_8 _) ?_
                refine zr_icmp_le (tgt := 155) (pc' := 145) dX8_add_142 rfl rfl h.1.1 h.1.2 (fun hc => ?_) (fun hc => ?_)
                · have h := h.2.1 hc
                  refine zr_aload_n (pc' := 156) (i := 0) dX8_add_155 rfl rfl rfl ?_
                  refine zr_dup (pc' := 157) dX8_add_156 rfl rfl ?_
                  refine zr_get (pc' := 160) dX8_add_157 rfl ps_26 kd_26 fl_X8_7 kc_8 (gv_26_0 _) ?_
                  refine zr_iload_n (pc' := 161) (i := 2) dX8_add_160 rfl rfl rfl ?_
                  refine zr_iadd (pc' := 162) dX8_add_161 rfl ?_
                  refine zr_put (pc' := 165) dX8_add_162 rfl ps_26 kd_26 fl_X8_7 kc_8 rfl nf_26_0 rfl trivial (fun M118 hM1 => ?_)
                  have h := h M118 hM1
                  refine zr_aload_n (pc' := 166) (i := 0) dX8_add_165 rfl rfl rfl ?_
                  refine zr_dup (pc' := 167) dX8_add_166 rfl rfl ?_
                  refine zr_get (pc' := 170) dX8_add_167 rfl ps_26 kd_26 fl_X8_13 kc_8 (gv_26_1 _) ?_
                  refine zr_iconst (pc' := 171) dX8_add_170 rfl ?_
                  refine zr_iadd (pc' := 172) dX8_add_171 rfl ?_
                  refine zr_put (pc' := 175) dX8_add_172 rfl ps_26 kd_26 fl_X8_13 kc_8 rfl nf_26_1 rfl trivial (fun M119 hM1 => ?_)
                  have h := h M119 hM1
                  exact zr_return (x := 0) dX8_add_175 rfl (Nat.le_refl _) (Nat.le_refl _) (And.intro rfl h)
                · have h := h.2.2 hc
                  refine zr_aload_n (pc' := 146) (i := 0) dX8_add_145 rfl rfl rfl ?_
                  refine zr_iload_n (pc' := 147) (i := 1) dX8_add_146 rfl rfl rfl ?_
                  refine zr_put (pc' := 150) dX8_add_147 rfl ps_26 kd_26 fl_X8_33 kc_8 rfl nf_26_7 rfl trivial (fun M120 hM1 => ?_)
                  have h := h M120 hM1
                  refine zr_aload_n (pc' := 151) (i := 0) dX8_add_150 rfl rfl rfl ?_
                  refine zr_iload_n (pc' := 152) (i := 2) dX8_add_151 rfl rfl rfl ?_
                  refine zr_put (pc' := 155) dX8_add_152 rfl ps_26 kd_26 fl_X8_36 kc_8 rfl nf_26_8 rfl trivial (fun M121 hM1 => ?_)
                  have h := h M121 hM1
                  refine zr_aload_n (pc' := 156) (i := 0) dX8_add_155 rfl rfl rfl ?_
                  refine zr_dup (pc' := 157) dX8_add_156 rfl rfl ?_
                  refine zr_get (pc' := 160) dX8_add_157 rfl ps_26 kd_26 fl_X8_7 kc_8 (gv_26_0 _) ?_
                  refine zr_iload_n (pc' := 161) (i := 2) dX8_add_160 rfl rfl rfl ?_
                  refine zr_iadd (pc' := 162) dX8_add_161 rfl ?_
                  refine zr_put (pc' := 165) dX8_add_162 rfl ps_26 kd_26 fl_X8_7 kc_8 rfl nf_26_0 rfl trivial (fun M122 hM1 => ?_)
                  have h := h M122 hM1
                  refine zr_aload_n (pc' := 166) (i := 0) dX8_add_165 rfl rfl rfl ?_
                  refine zr_dup (pc' := 167) dX8_add_166 rfl rfl ?_
                  refine zr_get (pc' := 170) dX8_add_167 rfl ps_26 kd_26 fl_X8_13 kc_8 (gv_26_1 _) ?_
                  refine zr_iconst (pc' := 171) dX8_add_170 rfl ?_
                  refine zr_iadd (pc' := 172) dX8_add_171 rfl ?_
                  refine zr_put (pc' := 175) dX8_add_172 rfl ps_26 kd_26 fl_X8_13 kc_8 rfl nf_26_1 rfl trivial (fun M123 hM1 => ?_)
                  have h := h M123 hM1
                  exact zr_return (x := 0) dX8_add_175 rfl (Nat.le_refl _) (Nat.le_refl _) (And.intro rfl h)
          · have h := h.2.2 hc
            refine zr_iload_n (pc' := 92) (i := 1) dX8_add_91 rfl rfl rfl ?_
            refine zr_aload_n (pc' := 93) (i := 0) dX8_add_92 rfl rfl rfl ?_
            refine zr_get (pc' := 96) dX8_add_93 rfl ps_26 kd_26 fl_X8_27 kc_8 (gv_26_5 _) ?_
            refine zr_icmp_ne (tgt := 117) (pc' := 99) dX8_add_96 rfl rfl h.1.1 h.1.2 (fun hc => ?_) (fun hc => ?_)
            · have h := h.2.1 hc
              refine zr_iload_n (pc' := 118) (i := 3) dX8_add_117 rfl rfl rfl ?_
              refine zr_if_ne (tgt := 145) (pc' := 121) dX8_add_118 rfl rfl (zRd rfl) (fun hc => absurd hc (by decide)) (fun _ => ?_)
              refine zr_iload_n (pc' := 122) (i := 1) dX8_add_121 rfl rfl rfl ?_
              refine zr_aload_n (pc' := 123) (i := 0) dX8_add_122 rfl rfl rfl ?_
              refine zr_get (pc' := 126) dX8_add_123 rfl ps_26 kd_26 fl_X8_33 kc_8 (gv_26_7 _) ?_
              refine zr_icmp_gt (tgt := 145) (pc' := 129) dX8_add_126 rfl rfl h.1.1 h.1.2 (fun hc => ?_) (fun hc => ?_)
              · have h := h.2.1 hc
                refine zr_aload_n (pc' := 146) (i := 0) dX8_add_145 rfl rfl rfl ?_
                refine zr_iload_n (pc' := 147) (i := 1) dX8_add_146 rfl rfl rfl ?_
                refine zr_put (pc' := 150) dX8_add_147 rfl ps_26 kd_26 fl_X8_33 kc_8 rfl nf_26_7 rfl trivial (fun M124 hM1 => ?_)
                have h := h M124 hM1
                refine zr_aload_n (pc' := 151) (i := 0) dX8_add_150 rfl rfl rfl ?_
                refine zr_iload_n (pc' := 152) (i := 2) dX8_add_151 rfl rfl rfl ?_
                refine zr_put (pc' := 155) dX8_add_152 rfl ps_26 kd_26 fl_X8_36 kc_8 rfl nf_26_8 rfl trivial (fun M125 hM1 => ?_)
                have h := h M125 hM1
                refine zr_aload_n (pc' := 156) (i := 0) dX8_add_155 rfl rfl rfl ?_
                refine zr_dup (pc' := 157) dX8_add_156 rfl rfl ?_
                refine zr_get (pc' := 160) dX8_add_157 rfl ps_26 kd_26 fl_X8_7 kc_8 (gv_26_0 _) ?_
                refine zr_iload_n (pc' := 161) (i := 2) dX8_add_160 rfl rfl rfl ?_
                refine zr_iadd (pc' := 162) dX8_add_161 rfl ?_
                refine zr_put (pc' := 165) dX8_add_162 rfl ps_26 kd_26 fl_X8_7 kc_8 rfl nf_26_0 rfl trivial (fun M126 hM1 => ?_)
                have h := h M126 hM1
                refine zr_aload_n (pc' := 166) (i := 0) dX8_add_165 rfl rfl rfl ?_
                refine zr_dup (pc' := 167) dX8_add_166 rfl rfl ?_
                refine zr_get (pc' := 170) dX8_add_167 rfl ps_26 kd_26 fl_X8_13 kc_8 (gv_26_1 _) ?_
                refine zr_iconst (pc' := 171) dX8_add_170 rfl ?_
                refine zr_iadd (pc' := 172) dX8_add_171 rfl ?_
                refine zr_put (pc' := 175) dX8_add_172 rfl ps_26 kd_26 fl_X8_13 kc_8 rfl nf_26_1 rfl trivial (fun M127 hM1 => ?_)
                have h := h M127 hM1
                exact zr_return (x := 0) dX8_add_175 rfl (Nat.le_refl _) (Nat.le_refl _) (And.intro rfl h)
              · have h := h.2.2 hc
                refine zr_iload_n (pc' := 130) (i := 1) dX8_add_129 rfl rfl rfl ?_
                refine zr_aload_n (pc' := 131) (i := 0) dX8_add_130 rfl rfl rfl ?_
                refine zr_get (pc' := 134) dX8_add_131 rfl ps_26 kd_26 fl_X8_33 kc_8 (gv_26_7 _) ?_
                refine zr_icmp_ne (tgt := 155) (pc' := 137) dX8_add_134 rfl rfl h.1.1 h.1.2 (fun hc => ?_) (fun hc => ?_)
                · have h := h.2.1 hc
                  refine zr_aload_n (pc' := 156) (i := 0) dX8_add_155 rfl rfl rfl ?_
                  refine zr_dup (pc' := 157) dX8_add_156 rfl rfl ?_
                  refine zr_get (pc' := 160) dX8_add_157 rfl ps_26 kd_26 fl_X8_7 kc_8 (gv_26_0 _) ?_
                  refine zr_iload_n (pc' := 161) (i := 2) dX8_add_160 rfl rfl rfl ?_
                  refine zr_iadd (pc' := 162) dX8_add_161 rfl ?_
                  refine zr_put (pc' := 165) dX8_add_162 rfl ps_26 kd_26 fl_X8_7 kc_8 rfl nf_26_0 rfl trivial (fun M128 hM1 => ?_)
                  have h := h M128 hM1
                  refine zr_aload_n (pc' := 166) (i := 0) dX8_add_165 rfl rfl rfl ?_
                  refine zr_dup (pc' := 167) dX8_add_166 rfl rfl ?_
                  refine zr_get (pc' := 170) dX8_add_167 rfl ps_26 kd_26 fl_X8_13 kc_8 (gv_26_1 _) ?_
                  refine zr_iconst (pc' := 171) dX8_add_170 rfl ?_
                  refine zr_iadd (pc' := 172) dX8_add_171 rfl ?_
                  refine zr_put (pc' := 175) dX8_add_172 rfl ps_26 kd_26 fl_X8_13 kc_8 rfl nf_26_1 rfl trivial (fun M129 hM1 => ?_)
                  have h := h M129 hM1
                  exact zr_return (x := 0) dX8_add_175 rfl (Nat.le_refl _) (Nat.le_refl _) (And.intro rfl h)
                · have h := h.2.2 hc
                  refine zr_iload_n (pc' := 138) (i := 2) dX8_add_137 rfl rfl rfl ?_
                  refine zr_aload_n (pc' := 139) (i := 0) dX8_add_138 rfl rfl rfl ?_
                  refine zr_get (pc' := 142) dX8_add_139 rfl ps_26 kd_26 fl_X8_36 kc_8 (gv_26_8 _) ?_
                  refine zr_icmp_le (tgt := 155) (pc' := 145) dX8_add_142 rfl rfl h.1.1 h.1.2 (fun hc => ?_) (fun hc => ?_)
                  · have h := h.2.1 hc
                    refine zr_aload_n (pc' := 156) (i := 0) dX8_add_155 rfl rfl rfl ?_
                    refine zr_dup (pc' := 157) dX8_add_156 rfl rfl ?_
                    refine zr_get (pc' := 160) dX8_add_157 rfl ps_26 kd_26 fl_X8_7 kc_8 (gv_26_0 _) ?_
                    refine zr_iload_n (pc' := 161) (i := 2) dX8_add_160 rfl rfl rfl ?_
                    refine zr_iadd (pc' := 162) dX8_add_161 rfl ?_
                    refine zr_put (pc' := 165) dX8_add_162 rfl ps_26 kd_26 fl_X8_7 kc_8 rfl nf_26_0 rfl trivial (fun M130 hM1 => ?_)
                    have h := h M130 hM1
                    refine zr_aload_n (pc' := 166) (i := 0) dX8_add_165 rfl rfl rfl ?_
                    refine zr_dup (pc' := 167) dX8_add_166 rfl rfl ?_
                    refine zr_get (pc' := 170) dX8_add_167 rfl ps_26 kd_26 fl_X8_13 kc_8 (gv_26_1 _) ?_
                    refine zr_iconst (pc' := 171) dX8_add_170 rfl ?_
                    refine zr_iadd (pc' := 172) dX8_add_171 rfl ?_
                    refine zr_put (pc' := 175) dX8_add_172 rfl ps_26 kd_26 fl_X8_13 kc_8 rfl nf_26_1 rfl trivial (fun M131 hM1 => ?_)
                    have h := h M131 hM1
                    exact zr_return (x := 0) dX8_add_175 rfl (Nat.le_refl _) (Nat.le_refl _) (And.intro rfl h)
                  · have h := h.2.2 hc
                    refine zr_aload_n (pc' := 146) (i := 0) dX8_add_145 rfl rfl rfl ?_
                    refine zr_iload_n (pc' := 147) (i := 1) dX8_add_146 rfl rfl rfl ?_
                    refine zr_put (pc' := 150) dX8_add_147 rfl ps_26 kd_26 fl_X8_33 kc_8 rfl nf_26_7 rfl trivial (fun M132 hM1 => ?_)
                    have h := h M132 hM1
                    refine zr_aload_n (pc' := 151) (i := 0) dX8_add_150 rfl rfl rfl ?_
                    refine zr_iload_n (pc' := 152) (i := 2) dX8_add_151 rfl rfl rfl ?_
                    refine zr_put (pc' := 155) dX8_add_152 rfl ps_26 kd_26 fl_X8_36 kc_8 rfl nf_26_8 rfl trivial (fun M133 hM1 => ?_)
                    have h := h M133 hM1
                    refine zr_aload_n (pc' := 156) (i := 0) dX8_add_155 rfl rfl rfl ?_
                    refine zr_dup (pc' := 157) dX8_add_156 rfl rfl ?_
                    refine zr_get (pc' := 160) dX8_add_157 rfl ps_26 kd_26 fl_X8_7 kc_8 (gv_26_0 _) ?_
                    refine zr_iload_n (pc' := 161) (i := 2) dX8_add_160 rfl rfl rfl ?_
                    refine zr_iadd (pc' := 162) dX8_add_161 rfl ?_
                    refine zr_put (pc' := 165) dX8_add_162 rfl ps_26 kd_26 fl_X8_7 kc_8 rfl nf_26_0 rfl trivial (fun M134 hM1 => ?_)
                    have h := h M134 hM1
                    refine zr_aload_n (pc' := 166) (i := 0) dX8_add_165 rfl rfl rfl ?_
                    refine zr_dup (pc' := 167) dX8_add_166 rfl rfl ?_
                    refine zr_get (pc' := 170) dX8_add_167 rfl ps_26 kd_26 fl_X8_13 kc_8 (gv_26_1 _) ?_
                    refine zr_iconst (pc' := 171) dX8_add_170 rfl ?_
                    refine zr_iadd (pc' := 172) dX8_add_171 rfl ?_
                    refine zr_put (pc' := 175) dX8_add_172 rfl ps_26 kd_26 fl_X8_13 kc_8 rfl nf_26_1 rfl trivial (fun M135 hM1 => ?_)
                    have h := h M135 hM1
                    exact zr_return (x := 0) dX8_add_175 rfl (Nat.le_refl _) (Nat.le_refl _) (And.intro rfl h)
            · have h := h.2.2 hc
              refine zr_iload_n (pc' := 100) (i := 2) dX8_add_99 rfl rfl rfl ?_
              refine zr_aload_n (pc' := 101) (i := 0) dX8_add_100 rfl rfl rfl ?_
              refine zr_get (pc' := 104) dX8_add_101 rfl ps_26 kd_26 fl_X8_30 kc_8 (gv_26_6 _) ?_
              refine zr_icmp_le (tgt := 117) (pc' := 107) dX8_add_104 rfl rfl h.1.1 h.1.2 (fun hc => ?_) (fun hc => ?_)
              · have h := h.2.1 hc
                refine zr_iload_n (pc' := 118) (i := 3) dX8_add_117 rfl rfl rfl ?_
                refine zr_if_ne (tgt := 145) (pc' := 121) dX8_add_118 rfl rfl (zRd rfl) (fun hc => absurd hc (by decide)) (fun _ => ?_)
                refine zr_iload_n (pc' := 122) (i := 1) dX8_add_121 rfl rfl rfl ?_
                refine zr_aload_n (pc' := 123) (i := 0) dX8_add_122 rfl rfl rfl ?_
                refine zr_get (pc' := 126) dX8_add_123 rfl ps_26 kd_26 fl_X8_33 kc_8 (gv_26_7 _) ?_
                refine zr_icmp_gt (tgt := 145) (pc' := 129) dX8_add_126 rfl rfl h.1.1 h.1.2 (fun hc => ?_) (fun hc => ?_)
                · have h := h.2.1 hc
                  refine zr_aload_n (pc' := 146) (i := 0) dX8_add_145 rfl rfl rfl ?_
                  refine zr_iload_n (pc' := 147) (i := 1) dX8_add_146 rfl rfl rfl ?_
                  refine zr_put (pc' := 150) dX8_add_147 rfl ps_26 kd_26 fl_X8_33 kc_8 rfl nf_26_7 rfl trivial (fun M136 hM1 => ?_)
                  have h := h M136 hM1
                  refine zr_aload_n (pc' := 151) (i := 0) dX8_add_150 rfl rfl rfl ?_
                  refine zr_iload_n (pc' := 152) (i := 2) dX8_add_151 rfl rfl rfl ?_
                  refine zr_put (pc' := 155) dX8_add_152 rfl ps_26 kd_26 fl_X8_36 kc_8 rfl nf_26_8 rfl trivial (fun M137 hM1 => ?_)
                  have h := h M137 hM1
                  refine zr_aload_n (pc' := 156) (i := 0) dX8_add_155 rfl rfl rfl ?_
                  refine zr_dup (pc' := 157) dX8_add_156 rfl rfl ?_
                  refine zr_get (pc' := 160) dX8_add_157 rfl ps_26 kd_26 fl_X8_7 kc_8 (gv_26_0 _) ?_
                  refine zr_iload_n (pc' := 161) (i := 2) dX8_add_160 rfl rfl rfl ?_
                  refine zr_iadd (pc' := 162) dX8_add_161 rfl ?_
                  refine zr_put (pc' := 165) dX8_add_162 rfl ps_26 kd_26 fl_X8_7 kc_8 rfl nf_26_0 rfl trivial (fun M138 hM1 => ?_)
                  have h := h M138 hM1
                  refine zr_aload_n (pc' := 166) (i := 0) dX8_add_165 rfl rfl rfl ?_
                  refine zr_dup (pc' := 167) dX8_add_166 rfl rfl ?_
                  refine zr_get (pc' := 170) dX8_add_167 rfl ps_26 kd_26 fl_X8_13 kc_8 (gv_26_1 _) ?_
                  refine zr_iconst (pc' := 171) dX8_add_170 rfl ?_
                  refine zr_iadd (pc' := 172) dX8_add_171 rfl ?_
                  refine zr_put (pc' := 175) dX8_add_172 rfl ps_26 kd_26 fl_X8_13 kc_8 rfl nf_26_1 rfl trivial (fun M139 hM1 => ?_)
                  have h := h M139 hM1
                  exact zr_return (x := 0) dX8_add_175 rfl (Nat.le_refl _) (Nat.le_refl _) (And.intro rfl h)
                · have h := h.2.2 hc
                  refine zr_iload_n (pc' := 130) (i := 1) dX8_add_129 rfl rfl rfl ?_
                  refine zr_aload_n (pc' := 131) (i := 0) dX8_add_130 rfl rfl rfl ?_
                  refine zr_get (pc' := 134) dX8_add_131 rfl ps_26 kd_26 fl_X8_33 kc_8 (gv_26_7 _) ?_
                  refine zr_icmp_ne (tgt := 155) (pc' := 137) dX8_add_134 rfl rfl h.1.1 h.1.2 (fun hc => ?_) (fun hc => ?_)
                  · have h := h.2.1 hc
                    refine zr_aload_n (pc' := 156) (i := 0) dX8_add_155 rfl rfl rfl ?_
                    refine zr_dup (pc' := 157) dX8_add_156 rfl rfl ?_
                    refine zr_get (pc' := 160) dX8_add_157 rfl ps_26 kd_26 fl_X8_7 kc_8 (gv_26_0 _) ?_
                    refine zr_iload_n (pc' := 161) (i := 2) dX8_add_160 rfl rfl rfl ?_
                    refine zr_iadd (pc' := 162) dX8_add_161 rfl ?_
                    refine zr_put (pc' := 165) dX8_add_162 rfl ps_26 kd_26 fl_X8_7 kc_8 rfl nf_26_0 rfl trivial (fun M140 hM1 => ?_)
                    have h := h M140 hM1
                    refine zr_aload_n (pc' := 166) (i := 0) dX8_add_165 rfl rfl rfl ?_
                    refine zr_dup (pc' := 167) dX8_add_166 rfl rfl ?_
                    refine zr_get (pc' := 170) dX8_add_167 rfl ps_26 kd_26 fl_X8_13 kc_8 (gv_26_1 _) ?_
                    refine zr_iconst (pc' := 171) dX8_add_170 rfl ?_
                    refine zr_iadd (pc' := 172) dX8_add_171 rfl ?_
                    refine zr_put (pc' := 175) dX8_add_172 rfl ps_26 kd_26 fl_X8_13 kc_8 rfl nf_26_1 rfl trivial (fun M141 hM1 => ?_)
                    have h := h M141 hM1
                    exact zr_return (x := 0) dX8_add_175 rfl (Nat.le_refl _) (Nat.le_refl _) (And.intro rfl h)
                  · have h := h.2.2 hc
                    refine zr_iload_n (pc' := 138) (i := 2) dX8_add_137 rfl rfl rfl ?_
                    refine zr_aload_n (pc' := 139) (i := 0) dX8_add_138 rfl rfl rfl ?_
                    refine zr_get (pc' := 142) dX8_add_139 rfl ps_26 kd_26 fl_X8_36 kc_8 (gv_26_8 _) ?_
                    refine zr_icmp_le (tgt := 155) (pc' := 145) dX8_add_142 rfl rfl h.1.1 h.1.2 (fun hc => ?_) (fun hc => ?_)
                    · have h := h.2.1 hc
                      refine zr_aload_n (pc' := 156) (i := 0) dX8_add_155 rfl rfl rfl ?_
                      refine zr_dup (pc' := 157) dX8_add_156 rfl rfl ?_
                      refine zr_get (pc' := 160) dX8_add_157 rfl ps_26 kd_26 fl_X8_7 kc_8 (gv_26_0 _) ?_
                      refine zr_iload_n (pc' := 161) (i := 2) dX8_add_160 rfl rfl rfl ?_
                      refine zr_iadd (pc' := 162) dX8_add_161 rfl ?_
                      refine zr_put (pc' := 165) dX8_add_162 rfl ps_26 kd_26 fl_X8_7 kc_8 rfl nf_26_0 rfl trivial (fun M142 hM1 => ?_)
                      have h := h M142 hM1
                      refine zr_aload_n (pc' := 166) (i := 0) dX8_add_165 rfl rfl rfl ?_
                      refine zr_dup (pc' := 167) dX8_add_166 rfl rfl ?_
                      refine zr_get (pc' := 170) dX8_add_167 rfl ps_26 kd_26 fl_X8_13 kc_8 (gv_26_1 _) ?_
                      refine zr_iconst (pc' := 171) dX8_add_170 rfl ?_
                      refine zr_iadd (pc' := 172) dX8_add_171 rfl ?_
                      refine zr_put (pc' := 175) dX8_add_172 rfl ps_26 kd_26 fl_X8_13 kc_8 rfl nf_26_1 rfl trivial (fun M143 hM1 => ?_)
                      have h := h M143 hM1
                      exact zr_return (x := 0) dX8_add_175 rfl (Nat.le_refl _) (Nat.le_refl _) (And.intro rfl h)
                    · have h := h.2.2 hc
                      refine zr_aload_n (pc' := 146) (i := 0) dX8_add_145 rfl rfl rfl ?_
                      refine zr_iload_n (pc' := 147) (i := 1) dX8_add_146 rfl rfl rfl ?_
                      refine zr_put (pc' := 150) dX8_add_147 rfl ps_26 kd_26 fl_X8_33 kc_8 rfl nf_26_7 rfl trivial (fun M144 hM1 => ?_)
                      have h := h M144 hM1
                      refine zr_aload_n (pc' := 151) (i := 0) dX8_add_150 rfl rfl rfl ?_
                      refine zr_iload_n (pc' := 152) (i := 2) dX8_add_151 rfl rfl rfl ?_
                      refine zr_put (pc' := 155) dX8_add_152 rfl ps_26 kd_26 fl_X8_36 kc_8 rfl nf_26_8 rfl trivial (fun M145 hM1 => ?_)
                      have h := h M145 hM1
                      refine zr_aload_n (pc' := 156) (i := 0) dX8_add_155 rfl rfl rfl ?_
                      refine zr_dup (pc' := 157) dX8_add_156 rfl rfl ?_
                      refine zr_get (pc' := 160) dX8_add_157 rfl ps_26 kd_26 fl_X8_7 kc_8 (gv_26_0 _) ?_
                      refine zr_iload_n (pc' := 161) (i := 2) dX8_add_160 rfl rfl rfl ?_
                      refine zr_iadd (pc' := 162) dX8_add_161 rfl ?_
                      refine zr_put (pc' := 165) dX8_add_162 rfl ps_26 kd_26 fl_X8_7 kc_8 rfl nf_26_0 rfl trivial (fun M146 hM1 => ?_)
                      have h := h M146 hM1
                      refine zr_aload_n (pc' := 166) (i := 0) dX8_add_165 rfl rfl rfl ?_
                      refine zr_dup (pc' := 167) dX8_add_166 rfl rfl ?_
                      refine zr_get (pc' := 170) dX8_add_167 rfl ps_26 kd_26 fl_X8_13 kc_8 (gv_26_1 _) ?_
                      refine zr_iconst (pc' := 171) dX8_add_170 rfl ?_
                      refine zr_iadd (pc' := 172) dX8_add_171 rfl ?_
                      refine zr_put (pc' := 175) dX8_add_172 rfl ps_26 kd_26 fl_X8_13 kc_8 rfl nf_26_1 rfl trivial (fun M147 hM1 => ?_)
                      have h := h M147 hM1
                      exact zr_return (x := 0) dX8_add_175 rfl (Nat.le_refl _) (Nat.le_refl _) (And.intro rfl h)
              · have h := h.2.2 hc
                refine zr_aload_n (pc' := 108) (i := 0) dX8_add_107 rfl rfl rfl ?_
                refine zr_iload_n (pc' := 109) (i := 1) dX8_add_108 rfl rfl rfl ?_
                refine zr_put (pc' := 112) dX8_add_109 rfl ps_26 kd_26 fl_X8_27 kc_8 rfl nf_26_5 rfl trivial (fun M148 hM1 => ?_)
                have h := h M148 hM1
                refine zr_aload_n (pc' := 113) (i := 0) dX8_add_112 rfl rfl rfl ?_
                refine zr_iload_n (pc' := 114) (i := 2) dX8_add_113 rfl rfl rfl ?_
                refine zr_put (pc' := 117) dX8_add_114 rfl ps_26 kd_26 fl_X8_30 kc_8 rfl nf_26_6 rfl trivial (fun M149 hM1 => ?_)
                have h := h M149 hM1
                refine zr_iload_n (pc' := 118) (i := 3) dX8_add_117 rfl rfl rfl ?_
                refine zr_if_ne (tgt := 145) (pc' := 121) dX8_add_118 rfl rfl (zRd rfl) (fun hc => absurd hc (by decide)) (fun _ => ?_)
                refine zr_iload_n (pc' := 122) (i := 1) dX8_add_121 rfl rfl rfl ?_
                refine zr_aload_n (pc' := 123) (i := 0) dX8_add_122 rfl rfl rfl ?_
                refine zr_get (pc' := 126) dX8_add_123 rfl ps_26 kd_26 fl_X8_33 kc_8 (gv_26_7 _) ?_
                refine zr_icmp_gt (tgt := 145) (pc' := 129) dX8_add_126 rfl rfl h.1.1 h.1.2 (fun hc => ?_) (fun hc => ?_)
                · have h := h.2.1 hc
                  refine zr_aload_n (pc' := 146) (i := 0) dX8_add_145 rfl rfl rfl ?_
                  refine zr_iload_n (pc' := 147) (i := 1) dX8_add_146 rfl rfl rfl ?_
                  refine zr_put (pc' := 150) dX8_add_147 rfl ps_26 kd_26 fl_X8_33 kc_8 rfl nf_26_7 rfl trivial (fun M150 hM1 => ?_)
                  have h := h M150 hM1
                  refine zr_aload_n (pc' := 151) (i := 0) dX8_add_150 rfl rfl rfl ?_
                  refine zr_iload_n (pc' := 152) (i := 2) dX8_add_151 rfl rfl rfl ?_
                  refine zr_put (pc' := 155) dX8_add_152 rfl ps_26 kd_26 fl_X8_36 kc_8 rfl nf_26_8 rfl trivial (fun M151 hM1 => ?_)
                  have h := h M151 hM1
                  refine zr_aload_n (pc' := 156) (i := 0) dX8_add_155 rfl rfl rfl ?_
                  refine zr_dup (pc' := 157) dX8_add_156 rfl rfl ?_
                  refine zr_get (pc' := 160) dX8_add_157 rfl ps_26 kd_26 fl_X8_7 kc_8 (gv_26_0 _) ?_
                  refine zr_iload_n (pc' := 161) (i := 2) dX8_add_160 rfl rfl rfl ?_
                  refine zr_iadd (pc' := 162) dX8_add_161 rfl ?_
                  refine zr_put (pc' := 165) dX8_add_162 rfl ps_26 kd_26 fl_X8_7 kc_8 rfl nf_26_0 rfl trivial (fun M152 hM1 => ?_)
                  have h := h M152 hM1
                  refine zr_aload_n (pc' := 166) (i := 0) dX8_add_165 rfl rfl rfl ?_
                  refine zr_dup (pc' := 167) dX8_add_166 rfl rfl ?_
                  refine zr_get (pc' := 170) dX8_add_167 rfl ps_26 kd_26 fl_X8_13 kc_8 (gv_26_1 _) ?_
                  refine zr_iconst (pc' := 171) dX8_add_170 rfl ?_
                  refine zr_iadd (pc' := 172) dX8_add_171 rfl ?_
                  refine zr_put (pc' := 175) dX8_add_172 rfl ps_26 kd_26 fl_X8_13 kc_8 rfl nf_26_1 rfl trivial (fun M153 hM1 => ?_)
                  have h := h M153 hM1
                  exact zr_return (x := 0) dX8_add_175 rfl (Nat.le_refl _) (Nat.le_refl _) (And.intro rfl h)
                · have h := h.2.2 hc
                  refine zr_iload_n (pc' := 130) (i := 1) dX8_add_129 rfl rfl rfl ?_
                  refine zr_aload_n (pc' := 131) (i := 0) dX8_add_130 rfl rfl rfl ?_
                  refine zr_get (pc' := 134) dX8_add_131 rfl ps_26 kd_26 fl_X8_33 kc_8 (gv_26_7 _) ?_
                  refine zr_icmp_ne (tgt := 155) (pc' := 137) dX8_add_134 rfl rfl h.1.1 h.1.2 (fun hc => ?_) (fun hc => ?_)
                  · have h := h.2.1 hc
                    refine zr_aload_n (pc' := 156) (i := 0) dX8_add_155 rfl rfl rfl ?_
                    refine zr_dup (pc' := 157) dX8_add_156 rfl rfl ?_
                    refine zr_get (pc' := 160) dX8_add_157 rfl ps_26 kd_26 fl_X8_7 kc_8 (gv_26_0 _) ?_
                    refine zr_iload_n (pc' := 161) (i := 2) dX8_add_160 rfl rfl rfl ?_
                    refine zr_iadd (pc' := 162) dX8_add_161 rfl ?_
                    refine zr_put (pc' := 165) dX8_add_162 rfl ps_26 kd_26 fl_X8_7 kc_8 rfl nf_26_0 rfl trivial (fun M154 hM1 => ?_)
                    have h := h M154 hM1
                    refine zr_aload_n (pc' := 166) (i := 0) dX8_add_165 rfl rfl rfl ?_
                    refine zr_dup (pc' := 167) dX8_add_166 rfl rfl ?_
                    refine zr_get (pc' := 170) dX8_add_167 rfl ps_26 kd_26 fl_X8_13 kc_8 (gv_26_1 _) ?_
                    refine zr_iconst (pc' := 171) dX8_add_170 rfl ?_
                    refine zr_iadd (pc' := 172) dX8_add_171 rfl ?_
                    refine zr_put (pc' := 175) dX8_add_172 rfl ps_26 kd_26 fl_X8_13 kc_8 rfl nf_26_1 rfl trivial (fun M155 hM1 => ?_)
                    have h := h M155 hM1
                    exact zr_return (x := 0) dX8_add_175 rfl (Nat.le_refl _) (Nat.le_refl _) (And.intro rfl h)
                  · have h := h.2.2 hc
                    refine zr_iload_n (pc' := 138) (i := 2) dX8_add_137 rfl rfl rfl ?_
                    refine zr_aload_n (pc' := 139) (i := 0) dX8_add_138 rfl rfl rfl ?_
                    refine zr_get (pc' := 142) dX8_add_139 rfl ps_26 kd_26 fl_X8_36 kc_8 (gv_26_8 _) ?_
                    refine zr_icmp_le (tgt := 155) (pc' := 145) dX8_add_142 rfl rfl h.1.1 h.1.2 (fun hc => ?_) (fun hc => ?_)
                    · have h := h.2.1 hc
                      refine zr_aload_n (pc' := 156) (i := 0) dX8_add_155 rfl rfl rfl ?_
                      refine zr_dup (pc' := 157) dX8_add_156 rfl rfl ?_
                      refine zr_get (pc' := 160) dX8_add_157 rfl ps_26 kd_26 fl_X8_7 kc_8 (gv_26_0 _) ?_
                      refine zr_iload_n (pc' := 161) (i := 2) dX8_add_160 rfl rfl rfl ?_
                      refine zr_iadd (pc' := 162) dX8_add_161 rfl ?_
                      refine zr_put (pc' := 165) dX8_add_162 rfl ps_26 kd_26 fl_X8_7 kc_8 rfl nf_26_0 rfl trivial (fun M156 hM1 => ?_)
                      have h := h M156 hM1
                      refine zr_aload_n (pc' := 166) (i := 0) dX8_add_165 rfl rfl rfl ?_
                      refine zr_dup (pc' := 167) dX8_add_166 rfl rfl ?_
                      refine zr_get (pc' := 170) dX8_add_167 rfl ps_26 kd_26 fl_X8_13 kc_8 (gv_26_1 _) ?_
                      refine zr_iconst (pc' := 171) dX8_add_170 rfl ?_
                      refine zr_iadd (pc' := 172) dX8_add_171 rfl ?_
                      refine zr_put (pc' := 175) dX8_add_172 rfl ps_26 kd_26 fl_X8_13 kc_8 rfl nf_26_1 rfl trivial (fun M157 hM1 => ?_)
                      have h := h M157 hM1
                      exact zr_return (x := 0) dX8_add_175 rfl (Nat.le_refl _) (Nat.le_refl _) (And.intro rfl h)
                    · have h := h.2.2 hc
                      refine zr_aload_n (pc' := 146) (i := 0) dX8_add_145 rfl rfl rfl ?_
                      refine zr_iload_n (pc' := 147) (i := 1) dX8_add_146 rfl rfl rfl ?_
                      refine zr_put (pc' := 150) dX8_add_147 rfl ps_26 kd_26 fl_X8_33 kc_8 rfl nf_26_7 rfl trivial (fun M158 hM1 => ?_)
                      have h := h M158 hM1
                      refine zr_aload_n (pc' := 151) (i := 0) dX8_add_150 rfl rfl rfl ?_
                      refine zr_iload_n (pc' := 152) (i := 2) dX8_add_151 rfl rfl rfl ?_
                      refine zr_put (pc' := 155) dX8_add_152 rfl ps_26 kd_26 fl_X8_36 kc_8 rfl nf_26_8 rfl trivial (fun M159 hM1 => ?_)
                      have h := h M159 hM1
                      refine zr_aload_n (pc' := 156) (i := 0) dX8_add_155 rfl rfl rfl ?_
                      refine zr_dup (pc' := 157) dX8_add_156 rfl rfl ?_
                      refine zr_get (pc' := 160) dX8_add_157 rfl ps_26 kd_26 fl_X8_7 kc_8 (gv_26_0 _) ?_
                      refine zr_iload_n (pc' := 161) (i := 2) dX8_add_160 rfl rfl rfl ?_
                      refine zr_iadd (pc' := 162) dX8_add_161 rfl ?_
                      refine zr_put (pc' := 165) dX8_add_162 rfl ps_26 kd_26 fl_X8_7 kc_8 rfl nf_26_0 rfl trivial (fun M160 hM1 => ?_)
                      have h := h M160 hM1
                      refine zr_aload_n (pc' := 166) (i := 0) dX8_add_165 rfl rfl rfl ?_
                      refine zr_dup (pc' := 167) dX8_add_166 rfl rfl ?_
                      refine zr_get (pc' := 170) dX8_add_167 rfl ps_26 kd_26 fl_X8_13 kc_8 (gv_26_1 _) ?_
                      refine zr_iconst (pc' := 171) dX8_add_170 rfl ?_
                      refine zr_iadd (pc' := 172) dX8_add_171 rfl ?_
                      refine zr_put (pc' := 175) dX8_add_172 rfl ps_26 kd_26 fl_X8_13 kc_8 rfl nf_26_1 rfl trivial (fun M161 hM1 => ?_)
                      have h := h M161 hM1
                      exact zr_return (x := 0) dX8_add_175 rfl (Nat.le_refl _) (Nat.le_refl _) (And.intro rfl h)
        · have h := h.2.2 hc
          refine zr_iload_n (pc' := 69) (i := 2) dX8_add_68 rfl rfl rfl ?_
          refine zr_goto (pc' := 76) dX8_add_69 rfl ?_
          refine zr_put (pc' := 79) dX8_add_76 rfl ps_26 kd_26 fl_X8_24 kc_8 rfl nf_26_4 rfl trivial (fun M162 hM1 => ?_)
          have h := h M162 hM1
          refine zr_iload_n (pc' := 80) (i := 3) dX8_add_79 rfl rfl rfl ?_
          refine zr_if_ne (tgt := 107) (pc' := 83) dX8_add_80 rfl rfl (zRd rfl) (fun hc => absurd hc (by decide)) (fun _ => ?_)
          refine zr_iload_n (pc' := 84) (i := 1) dX8_add_83 rfl rfl rfl ?_
          refine zr_aload_n (pc' := 85) (i := 0) dX8_add_84 rfl rfl rfl ?_
          refine zr_get (pc' := 88) dX8_add_85 rfl ps_26 kd_26 fl_X8_27 kc_8 (gv_26_5 _) ?_
          refine zr_icmp_lt (tgt := 107) (pc' := 91) dX8_add_88 rfl rfl h.1.1 h.1.2 (fun hc => ?_) (fun hc => ?_)
          · have h := h.2.1 hc
            refine zr_aload_n (pc' := 108) (i := 0) dX8_add_107 rfl rfl rfl ?_
            refine zr_iload_n (pc' := 109) (i := 1) dX8_add_108 rfl rfl rfl ?_
            refine zr_put (pc' := 112) dX8_add_109 rfl ps_26 kd_26 fl_X8_27 kc_8 rfl nf_26_5 rfl trivial (fun M163 hM1 => ?_)
            have h := h M163 hM1
            refine zr_aload_n (pc' := 113) (i := 0) dX8_add_112 rfl rfl rfl ?_
            refine zr_iload_n (pc' := 114) (i := 2) dX8_add_113 rfl rfl rfl ?_
            refine zr_put (pc' := 117) dX8_add_114 rfl ps_26 kd_26 fl_X8_30 kc_8 rfl nf_26_6 rfl trivial (fun M164 hM1 => ?_)
            have h := h M164 hM1
            refine zr_iload_n (pc' := 118) (i := 3) dX8_add_117 rfl rfl rfl ?_
            refine zr_if_ne (tgt := 145) (pc' := 121) dX8_add_118 rfl rfl (zRd rfl) (fun hc => absurd hc (by decide)) (fun _ => ?_)
            refine zr_iload_n (pc' := 122) (i := 1) dX8_add_121 rfl rfl rfl ?_
            refine zr_aload_n (pc' := 123) (i := 0) dX8_add_122 rfl rfl rfl ?_
            refine zr_get (pc' := 126) dX8_add_123 rfl ps_26 kd_26 fl_X8_33 kc_8 (gv_26_7 _) ?_
            refine zr_icmp_gt (tgt := 145) (pc' := 129) dX8_add_126 rfl rfl h.1.1 h.1.2 (fun hc => ?_) (fun hc => ?_)
            · have h := h.2.1 hc
              refine zr_aload_n (pc' := 146) (i := 0) dX8_add_145 rfl rfl rfl ?_
              refine zr_iload_n (pc' := 147) (i := 1) dX8_add_146 rfl rfl rfl ?_
              refine zr_put (pc' := 150) dX8_add_147 rfl ps_26 kd_26 fl_X8_33 kc_8 rfl nf_26_7 rfl trivial (fun M165 hM1 => ?_)
              have h := h M165 hM1
              refine zr_aload_n (pc' := 151) (i := 0) dX8_add_150 rfl rfl rfl ?_
              refine zr_iload_n (pc' := 152) (i := 2) dX8_add_151 rfl rfl rfl ?_
              refine zr_put (pc' := 155) dX8_add_152 rfl ps_26 kd_26 fl_X8_36 kc_8 rfl nf_26_8 rfl trivial (fun M166 hM1 => ?_)
              have h := h M166 hM1
              refine zr_aload_n (pc' := 156) (i := 0) dX8_add_155 rfl rfl rfl ?_
              refine zr_dup (pc' := 157) dX8_add_156 rfl rfl ?_
              refine zr_get (pc' := 160) dX8_add_157 rfl ps_26 kd_26 fl_X8_7 kc_8 (gv_26_0 _) ?_
              refine zr_iload_n (pc' := 161) (i := 2) dX8_add_160 rfl rfl rfl ?_
              refine zr_iadd (pc' := 162) dX8_add_161 rfl ?_
              refine zr_put (pc' := 165) dX8_add_162 rfl ps_26 kd_26 fl_X8_7 kc_8 rfl nf_26_0 rfl trivial (fun M167 hM1 => ?_)
              have h := h M167 hM1
              refine zr_aload_n (pc' := 166) (i := 0) dX8_add_165 rfl rfl rfl ?_
              refine zr_dup (pc' := 167) dX8_add_166 rfl rfl ?_
              refine zr_get (pc' := 170) dX8_add_167 rfl ps_26 kd_26 fl_X8_13 kc_8 (gv_26_1 _) ?_
              refine zr_iconst (pc' := 171) dX8_add_170 rfl ?_
              refine zr_iadd (pc' := 172) dX8_add_171 rfl ?_
              refine zr_put (pc' := 175) dX8_add_172 rfl ps_26 kd_26 fl_X8_13 kc_8 rfl nf_26_1 rfl trivial (fun M168 hM1 => ?_)
              have h := h M168 hM1
              exact zr_return (x := 0) dX8_add_175 rfl (Nat.le_refl _) (Nat.le_refl _) (And.intro rfl h)
            · have h := h.2.2 hc
              refine zr_iload_n (pc' := 130) (i := 1) dX8_add_129 rfl rfl rfl ?_
              refine zr_aload_n (pc' := 131) (i := 0) dX8_add_130 rfl rfl rfl ?_
              refine zr_get (pc' := 134) dX8_add_131 rfl ps_26 kd_26 fl_X8_33 kc_8 (gv_26_7 _) ?_
              refine zr_icmp_ne (tgt := 155) (pc' := 137) dX8_add_134 rfl rfl h.1.1 h.1.2 (fun hc => ?_) (fun hc => ?_)
              · have h := h.2.1 hc
                refine zr_aload_n (pc' := 156) (i := 0) dX8_add_155 rfl rfl rfl ?_
                refine zr_dup (pc' := 157) dX8_add_156 rfl rfl ?_
                refine zr_get (pc' := 160) dX8_add_157 rfl ps_26 kd_26 fl_X8_7 kc_8 (gv_26_0 _) ?_
                refine zr_iload_n (pc' := 161) (i := 2) dX8_add_160 rfl rfl rfl ?_
                refine zr_iadd (pc' := 162) dX8_add_161 rfl ?_
                refine zr_put (pc' := 165) dX8_add_162 rfl ps_26 kd_26 fl_X8_7 kc_8 rfl nf_26_0 rfl trivial (fun M169 hM1 => ?_)
                have h := h M169 hM1
                refine zr_aload_n (pc' := 166) (i := 0) dX8_add_165 rfl rfl rfl ?_
                refine zr_dup (pc' := 167) dX8_add_166 rfl rfl ?_
                refine zr_get (pc' := 170) dX8_add_167 rfl ps_26 kd_26 fl_X8_13 kc_8 (gv_26_1 _) ?_
                refine zr_iconst (pc' := 171) dX8_add_170 rfl ?_
                refine zr_iadd (pc' := 172) dX8_add_171 rfl ?_
                refine zr_put (pc' := 175) dX8_add_172 rfl ps_26 kd_26 fl_X8_13 kc_8 rfl nf_26_1 rfl trivial (fun M170 hM1 => ?_)
                have h := h M170 hM1
                exact zr_return (x := 0) dX8_add_175 rfl (Nat.le_refl _) (Nat.le_refl _) (And.intro rfl h)
              · have h := h.2.2 hc
                refine zr_iload_n (pc' := 138) (i := 2) dX8_add_137 rfl rfl rfl ?_
                refine zr_aload_n (pc' := 139) (i := 0) dX8_add_138 rfl rfl rfl ?_
                refine zr_get (pc' := 142) dX8_add_139 rfl ps_26 kd_26 fl_X8_36 kc_8 (gv_26_8 _) ?_
                refine zr_icmp_le (tgt := 155) (pc' := 145) dX8_add_142 rfl rfl h.1.1 h.1.2 (fun hc => ?_) (fun hc => ?_)
                · have h := h.2.1 hc
                  refine zr_aload_n (pc' := 156) (i := 0) dX8_add_155 rfl rfl rfl ?_
                  refine zr_dup (pc' := 157) dX8_add_156 rfl rfl ?_
                  refine zr_get (pc' := 160) dX8_add_157 rfl ps_26 kd_26 fl_X8_7 kc_8 (gv_26_0 _) ?_
                  refine zr_iload_n (pc' := 161) (i := 2) dX8_add_160 rfl rfl rfl ?_
                  refine zr_iadd (pc' := 162) dX8_add_161 rfl ?_
                  refine zr_put (pc' := 165) dX8_add_162 rfl ps_26 kd_26 fl_X8_7 kc_8 rfl nf_26_0 rfl trivial (fun M171 hM1 => ?_)
                  have h := h M171 hM1
                  refine zr_aload_n (pc' := 166) (i := 0) dX8_add_165 rfl rfl rfl ?_
                  refine zr_dup (pc' := 167) dX8_add_166 rfl rfl ?_
                  refine zr_get (pc' := 170) dX8_add_167 rfl ps_26 kd_26 fl_X8_13 kc_8 (gv_26_1 _) ?_
                  refine zr_iconst (pc' := 171) dX8_add_170 rfl ?_
                  refine zr_iadd (pc' := 172) dX8_add_171 rfl ?_
                  refine zr_put (pc' := 175) dX8_add_172 rfl ps_26 kd_26 fl_X8_13 kc_8 rfl nf_26_1 rfl trivial (fun M172 hM1 => ?_)
                  have h := h M172 hM1
                  exact zr_return (x := 0) dX8_add_175 rfl (Nat.le_refl _) (Nat.le_refl _) (And.intro rfl h)
                · have h := h.2.2 hc
                  refine zr_aload_n (pc' := 146) (i := 0) dX8_add_145 rfl rfl rfl ?_
                  refine zr_iload_n (pc' := 147) (i := 1) dX8_add_146 rfl rfl rfl ?_
                  refine zr_put (pc' := 150) dX8_add_147 rfl ps_26 kd_26 fl_X8_33 kc_8 rfl nf_26_7 rfl trivial (fun M173 hM1 => ?_)
                  have h := h M173 hM1
                  refine zr_aload_n (pc' := 151) (i := 0) dX8_add_150 rfl rfl rfl ?_
                  refine zr_iload_n (pc' := 152) (i := 2) dX8_add_151 rfl rfl rfl ?_
                  refine zr_put (pc' := 155) dX8_add_152 rfl ps_26 kd_26 fl_X8_36 kc_8 rfl nf_26_8 rfl trivial (fun M174 hM1 => ?_)
                  have h := h M174 hM1
                  refine zr_aload_n (pc' := 156) (i := 0) dX8_add_155 rfl rfl rfl ?_
                  refine zr_dup (pc' := 157) dX8_add_156 rfl rfl ?_
                  refine zr_get (pc' := 160) dX8_add_157 rfl ps_26 kd_26 fl_X8_7 kc_8 (gv_26_0 _) ?_
                  refine zr_iload_n (pc' := 161) (i := 2) dX8_add_160 rfl rfl rfl ?_
                  refine zr_iadd (pc' := 162) dX8_add_161 rfl ?_
                  refine zr_put (pc' := 165) dX8_add_162 rfl ps_26 kd_26 fl_X8_7 kc_8 rfl nf_26_0 rfl trivial (fun M175 hM1 => ?_)
                  have h := h M175 hM1
                  refine zr_aload_n (pc' := 166) (i := 0) dX8_add_165 rfl rfl rfl ?_
                  refine zr_dup (pc' := 167) dX8_add_166 rfl rfl ?_
                  refine zr_get (pc' := 170) dX8_add_167 rfl ps_26 kd_26 fl_X8_13 kc_8 (gv_26_1 _) ?_
                  refine zr_iconst (pc' := 171) dX8_add_170 rfl ?_
                  refine zr_iadd (pc' := 172) dX8_add_171 rfl ?_
                  refine zr_put (pc' := 175) dX8_add_172 rfl ps_26 kd_26 fl_X8_13 kc_8 rfl nf_26_1 rfl trivial (fun M176 hM1 => ?_)
                  have h := h M176 hM1
                  exact zr_return (x := 0) dX8_add_175 rfl (Nat.le_refl _) (Nat.le_refl _) (And.intro rfl h)
          · have h := h.2.2 hc
            refine zr_iload_n (pc' := 92) (i := 1) dX8_add_91 rfl rfl rfl ?_
            refine zr_aload_n (pc' := 93) (i := 0) dX8_add_92 rfl rfl rfl ?_
            refine zr_get (pc' := 96) dX8_add_93 rfl ps_26 kd_26 fl_X8_27 kc_8 (gv_26_5 _) ?_
            refine zr_icmp_ne (tgt := 117) (pc' := 99) dX8_add_96 rfl rfl h.1.1 h.1.2 (fun hc => ?_) (fun hc => ?_)
            · have h := h.2.1 hc
              refine zr_iload_n (pc' := 118) (i := 3) dX8_add_117 rfl rfl rfl ?_
              refine zr_if_ne (tgt := 145) (pc' := 121) dX8_add_118 rfl rfl (zRd rfl) (fun hc => absurd hc (by decide)) (fun _ => ?_)
              refine zr_iload_n (pc' := 122) (i := 1) dX8_add_121 rfl rfl rfl ?_
              refine zr_aload_n (pc' := 123) (i := 0) dX8_add_122 rfl rfl rfl ?_
              refine zr_get (pc' := 126) dX8_add_123 rfl ps_26 kd_26 fl_X8_33 kc_8 (gv_26_7 _) ?_
              refine zr_icmp_gt (tgt := 145) (pc' := 129) dX8_add_126 rfl rfl h.1.1 h.1.2 (fun hc => ?_) (fun hc => ?_)
              · have h := h.2.1 hc
                refine zr_aload_n (pc' := 146) (i := 0) dX8_add_145 rfl rfl rfl ?_
                refine zr_iload_n (pc' := 147) (i := 1) dX8_add_146 rfl rfl rfl ?_
                refine zr_put (pc' := 150) dX8_add_147 rfl ps_26 kd_26 fl_X8_33 kc_8 rfl nf_26_7 rfl trivial (fun M177 hM1 => ?_)
                have h := h M177 hM1
                refine zr_aload_n (pc' := 151) (i := 0) dX8_add_150 rfl rfl rfl ?_
                refine zr_iload_n (pc' := 152) (i := 2) dX8_add_151 rfl rfl rfl ?_
                refine zr_put (pc' := 155) dX8_add_152 rfl ps_26 kd_26 fl_X8_36 kc_8 rfl nf_26_8 rfl trivial (fun M178 hM1 => ?_)
                have h := h M178 hM1
                refine zr_aload_n (pc' := 156) (i := 0) dX8_add_155 rfl rfl rfl ?_
                refine zr_dup (pc' := 157) dX8_add_156 rfl rfl ?_
                refine zr_get (pc' := 160) dX8_add_157 rfl ps_26 kd_26 fl_X8_7 kc_8 (gv_26_0 _) ?_
                refine zr_iload_n (pc' := 161) (i := 2) dX8_add_160 rfl rfl rfl ?_
                refine zr_iadd (pc' := 162) dX8_add_161 rfl ?_
                refine zr_put (pc' := 165) dX8_add_162 rfl ps_26 kd_26 fl_X8_7 kc_8 rfl nf_26_0 rfl trivial (fun M179 hM1 => ?_)
                have h := h M179 hM1
                refine zr_aload_n (pc' := 166) (i := 0) dX8_add_165 rfl rfl rfl ?_
                refine zr_dup (pc' := 167) dX8_add_166 rfl rfl ?_
                refine zr_get (pc' := 170) dX8_add_167 rfl ps_26 kd_26 fl_X8_13 kc_8 (gv_26_1 _) ?_
                refine zr_iconst (pc' := 171) dX8_add_170 rfl ?_
                refine zr_iadd (pc' := 172) dX8_add_171 rfl ?_
                refine zr_put (pc' := 175) dX8_add_172 rfl ps_26 kd_26 fl_X8_13 kc_8 rfl nf_26_1 rfl trivial (fun M180 hM1 => ?_)
                have h := h M180 hM1
                exact zr_return (x := 0) dX8_add_175 rfl (Nat.le_refl _) (Nat.le_refl _) (And.intro rfl h)
              · have h := h.2.2 hc
                refine zr_iload_n (pc' := 130) (i := 1) dX8_add_129 rfl rfl rfl ?_
                refine zr_aload_n (pc' := 131) (i := 0) dX8_add_130 rfl rfl rfl ?_
                refine zr_get (pc' := 134) dX8_add_131 rfl ps_26 kd_26 fl_X8_33 kc_8 (gv_26_7 _) ?_
                refine zr_icmp_ne (tgt := 155) (pc' := 137) dX8_add_134 rfl rfl h.1.1 h.1.2 (fun hc => ?_) (fun hc => ?_)
                · have h := h.2.1 hc
                  refine zr_aload_n (pc' := 156) (i := 0) dX8_add_155 rfl rfl rfl ?_
                  refine zr_dup (pc' := 157) dX8_add_156 rfl rfl ?_
                  refine zr_get (pc' := 160) dX8_add_157 rfl ps_26 kd_26 fl_X8_7 kc_8 (gv_26_0 _) ?_
                  refine zr_iload_n (pc' := 161) (i := 2) dX8_add_160 rfl rfl rfl ?_
                  refine zr_iadd (pc' := 162) dX8_add_161 rfl ?_
                  refine zr_put (pc' := 165) dX8_add_162 rfl ps_26 kd_26 fl_X8_7 kc_8 rfl nf_26_0 rfl trivial (fun M181 hM1 => ?_)
                  have h := h M181 hM1
                  refine zr_aload_n (pc' := 166) (i := 0) dX8_add_165 rfl rfl rfl ?_
                  refine zr_dup (pc' := 167) dX8_add_166 rfl rfl ?_
                  refine zr_get (pc' := 170) dX8_add_167 rfl ps_26 kd_26 fl_X8_13 kc_8 (gv_26_1 _) ?_
                  refine zr_iconst (pc' := 171) dX8_add_170 rfl ?_
                  refine zr_iadd (pc' := 172) dX8_add_171 rfl ?_
                  refine zr_put (pc' := 175) dX8_add_172 rfl ps_26 kd_26 fl_X8_13 kc_8 rfl nf_26_1 rfl trivial (fun M182 hM1 => ?_)
                  have h := h M182 hM1
                  exact zr_return (x := 0) dX8_add_175 rfl (Nat.le_refl _) (Nat.le_refl _) (And.intro rfl h)
                · have h := h.2.2 hc
                  refine zr_iload_n (pc' := 138) (i := 2) dX8_add_137 rfl rfl rfl ?_
                  refine zr_aload_n (pc' := 139) (i := 0) dX8_add_138 rfl rfl rfl ?_
                  refine zr_get (pc' := 142) dX8_add_139 rfl ps_26 kd_26 fl_X8_36 kc_8 (gv_26_8 _) ?_
                  refine zr_icmp_le (tgt := 155) (pc' := 145) dX8_add_142 rfl rfl h.1.1 h.1.2 (fun hc => ?_) (fun hc => ?_)
                  · have h := h.2.1 hc
                    refine zr_aload_n (pc' := 156) (i := 0) dX8_add_155 rfl rfl rfl ?_
                    refine zr_dup (pc' := 157) dX8_add_156 rfl rfl ?_
                    refine zr_get (pc' := 160) dX8_add_157 rfl ps_26 kd_26 fl_X8_7 kc_8 (gv_26_0 _) ?_
                    refine zr_iload_n (pc' := 161) (i := 2) dX8_add_160 rfl rfl rfl ?_
                    refine zr_iadd (pc' := 162) dX8_add_161 rfl ?_
                    refine zr_put (pc' := 165) dX8_add_162 rfl ps_26 kd_26 fl_X8_7 kc_8 rfl nf_26_0 rfl trivial (fun M183 hM1 => ?_)
                    have h := h M183 hM1
                    refine zr_aload_n (pc' := 166) (i := 0) dX8_add_165 rfl rfl rfl ?_
                    refine zr_dup (pc' := 167) dX8_add_166 rfl rfl ?_
                    refine zr_get (pc' := 170) dX8_add_167 rfl ps_26 kd_26 fl_X8_13 kc_8 (gv_26_1 _) ?_
                    refine zr_iconst (pc' := 171) dX8_add_170 rfl ?_
                    refine zr_iadd (pc' := 172) dX8_add_171 rfl ?_
                    refine zr_put (pc' := 175) dX8_add_172 rfl ps_26 kd_26 fl_X8_13 kc_8 rfl nf_26_1 rfl trivial (fun M184 hM1 => ?_)
                    have h := h M184 hM1
                    exact zr_return (x := 0) dX8_add_175 rfl (Nat.le_refl _) (Nat.le_refl _) (And.intro rfl h)
                  · have h := h.2.2 hc
                    refine zr_aload_n (pc' := 146) (i := 0) dX8_add_145 rfl rfl rfl ?_
                    refine zr_iload_n (pc' := 147) (i := 1) dX8_add_146 rfl rfl rfl ?_
                    refine zr_put (pc' := 150) dX8_add_147 rfl ps_26 kd_26 fl_X8_33 kc_8 rfl nf_26_7 rfl trivial (fun M185 hM1 => ?_)
                    have h := h M185 hM1
                    refine zr_aload_n (pc' := 151) (i := 0) dX8_add_150 rfl rfl rfl ?_
                    refine zr_iload_n (pc' := 152) (i := 2) dX8_add_151 rfl rfl rfl ?_
                    refine zr_put (pc' := 155) dX8_add_152 rfl ps_26 kd_26 fl_X8_36 kc_8 rfl nf_26_8 rfl trivial (fun M186 hM1 => ?_)
                    have h := h M186 hM1
                    refine zr_aload_n (pc' := 156) (i := 0) dX8_add_155 rfl rfl rfl ?_
                    refine zr_dup (pc' := 157) dX8_add_156 rfl rfl ?_
                    refine zr_get (pc' := 160) dX8_add_157 rfl ps_26 kd_26 fl_X8_7 kc_8 (gv_26_0 _) ?_
                    refine zr_iload_n (pc' := 161) (i := 2) dX8_add_160 rfl rfl rfl ?_
                    refine zr_iadd (pc' := 162) dX8_add_161 rfl ?_
                    refine zr_put (pc' := 165) dX8_add_162 rfl ps_26 kd_26 fl_X8_7 kc_8 rfl nf_26_0 rfl trivial (fun M187 hM1 => ?_)
                    have h := h M187 hM1
                    refine zr_aload_n (pc' := 166) (i := 0) dX8_add_165 rfl rfl rfl ?_
                    refine zr_dup (pc' := 167) dX8_add_166 rfl rfl ?_
                    refine zr_get (pc' := 170) dX8_add_167 rfl ps_26 kd_26 fl_X8_13 kc_8 (gv_26_1 _) ?_
                    refine zr_iconst (pc' := 171) dX8_add_170 rfl ?_
                    refine zr_iadd (pc' := 172) dX8_add_171 rfl ?_
                    refine zr_put (pc' := 175) dX8_add_172 rfl ps_26 kd_26 fl_X8_13 kc_8 rfl nf_26_1 rfl trivial (fun M188 hM1 => ?_)
                    have h := h M188 hM1
                    exact zr_return (x := 0) dX8_add_175 rfl (Nat.le_refl _) (Nat.le_refl _) (And.intro rfl h)
            · have h := h.2.2 hc
              refine zr_iload_n (pc' := 100) (i := 2) dX8_add_99 rfl rfl rfl ?_
              refine zr_aload_n (pc' := 101) (i := 0) dX8_add_100 rfl rfl rfl ?_
              refine zr_get (pc' := 104) dX8_add_101 rfl ps_26 kd_26 fl_X8_30 kc_8 (gv_26_6 _) ?_
              refine zr_icmp_le (tgt := 117) (pc' := 107) dX8_add_104 rfl rfl h.1.1 h.1.2 (fun hc => ?_) (fun hc => ?_)
              · have h := h.2.1 hc
                refine zr_iload_n (pc' := 118) (i := 3) dX8_add_117 rfl rfl rfl ?_
                refine zr_if_ne (tgt := 145) (pc' := 121) dX8_add_118 rfl rfl (zRd rfl) (fun hc => absurd hc (by decide)) (fun _ => ?_)
                refine zr_iload_n (pc' := 122) (i := 1) dX8_add_121 rfl rfl rfl ?_
                refine zr_aload_n (pc' := 123) (i := 0) dX8_add_122 rfl rfl rfl ?_
                refine zr_get (pc' := 126) dX8_add_123 rfl ps_26 kd_26 fl_X8_33 kc_8 (gv_26_7 _) ?_
                refine zr_icmp_gt (tgt := 145) (pc' := 129) dX8_add_126 rfl rfl h.1.1 h.1.2 (fun hc => ?_) (fun hc => ?_)
                · have h := h.2.1 hc
                  refine zr_aload_n (pc' := 146) (i := 0) dX8_add_145 rfl rfl rfl ?_
                  refine zr_iload_n (pc' := 147) (i := 1) dX8_add_146 rfl rfl rfl ?_
                  refine zr_put (pc' := 150) dX8_add_147 rfl ps_26 kd_26 fl_X8_33 kc_8 rfl nf_26_7 rfl trivial (fun M189 hM1 => ?_)
                  have h := h M189 hM1
                  refine zr_aload_n (pc' := 151) (i := 0) dX8_add_150 rfl rfl rfl ?_
                  refine zr_iload_n (pc' := 152) (i := 2) dX8_add_151 rfl rfl rfl ?_
                  refine zr_put (pc' := 155) dX8_add_152 rfl ps_26 kd_26 fl_X8_36 kc_8 rfl nf_26_8 rfl trivial (fun M190 hM1 => ?_)
                  have h := h M190 hM1
                  refine zr_aload_n (pc' := 156) (i := 0) dX8_add_155 rfl rfl rfl ?_
                  refine zr_dup (pc' := 157) dX8_add_156 rfl rfl ?_
                  refine zr_get (pc' := 160) dX8_add_157 rfl ps_26 kd_26 fl_X8_7 kc_8 (gv_26_0 _) ?_
                  refine zr_iload_n (pc' := 161) (i := 2) dX8_add_160 rfl rfl rfl ?_
                  refine zr_iadd (pc' := 162) dX8_add_161 rfl ?_
                  refine zr_put (pc' := 165) dX8_add_162 rfl ps_26 kd_26 fl_X8_7 kc_8 rfl nf_26_0 rfl trivial (fun M191 hM1 => ?_)
                  have h := h M191 hM1
                  refine zr_aload_n (pc' := 166) (i := 0) dX8_add_165 rfl rfl rfl ?_
                  refine zr_dup (pc' := 167) dX8_add_166 rfl rfl ?_
                  refine zr_get (pc' := 170) dX8_add_167 rfl ps_26 kd_26 fl_X8_13 kc_8 (gv_26_1 _) ?_
                  refine zr_iconst (pc' := 171) dX8_add_170 rfl ?_
                  refine zr_iadd (pc' := 172) dX8_add_171 rfl ?_
                  refine zr_put (pc' := 175) dX8_add_172 rfl ps_26 kd_26 fl_X8_13 kc_8 rfl nf_26_1 rfl trivial (fun M192 hM1 => ?_)
                  have h := h M192 hM1
                  exact zr_return (x := 0) dX8_add_175 rfl (Nat.le_refl _) (Nat.le_refl _) (And.intro rfl h)
                · have h := h.2.2 hc
                  refine zr_iload_n (pc' := 130) (i := 1) dX8_add_129 rfl rfl rfl ?_
                  refine zr_aload_n (pc' := 131) (i := 0) dX8_add_130 rfl rfl rfl ?_
                  refine zr_get (pc' := 134) dX8_add_131 rfl ps_26 kd_26 fl_X8_33 kc_8 (gv_26_7 _) ?_
                  refine zr_icmp_ne (tgt := 155) (pc' := 137) dX8_add_134 rfl rfl h.1.1 h.1.2 (fun hc => ?_) (fun hc => ?_)
                  · have h := h.2.1 hc
                    refine zr_aload_n (pc' := 156) (i := 0) dX8_add_155 rfl rfl rfl ?_
                    refine zr_dup (pc' := 157) dX8_add_156 rfl rfl ?_
                    refine zr_get (pc' := 160) dX8_add_157 rfl ps_26 kd_26 fl_X8_7 kc_8 (gv_26_0 _) ?_
                    refine zr_iload_n (pc' := 161) (i := 2) dX8_add_160 rfl rfl rfl ?_
                    refine zr_iadd (pc' := 162) dX8_add_161 rfl ?_
                    refine zr_put (pc' := 165) dX8_add_162 rfl ps_26 kd_26 fl_X8_7 kc_8 rfl nf_26_0 rfl trivial (fun M193 hM1 => ?_)
                    have h := h M193 hM1
                    refine zr_aload_n (pc' := 166) (i := 0) dX8_add_165 rfl rfl rfl ?_
                    refine zr_dup (pc' := 167) dX8_add_166 rfl rfl ?_
                    refine zr_get (pc' := 170) dX8_add_167 rfl ps_26 kd_26 fl_X8_13 kc_8 (gv_26_1 _) ?_
                    refine zr_iconst (pc' := 171) dX8_add_170 rfl ?_
                    refine zr_iadd (pc' := 172) dX8_add_171 rfl ?_
                    refine zr_put (pc' := 175) dX8_add_172 rfl ps_26 kd_26 fl_X8_13 kc_8 rfl nf_26_1 rfl trivial (fun M194 hM1 => ?_)
                    have h := h M194 hM1
                    exact zr_return (x := 0) dX8_add_175 rfl (Nat.le_refl _) (Nat.le_refl _) (And.intro rfl h)
                  · have h := h.2.2 hc
                    refine zr_iload_n (pc' := 138) (i := 2) dX8_add_137 rfl rfl rfl ?_
                    refine zr_aload_n (pc' := 139) (i := 0) dX8_add_138 rfl rfl rfl ?_
                    refine zr_get (pc' := 142) dX8_add_139 rfl ps_26 kd_26 fl_X8_36 kc_8 (gv_26_8 _) ?_
                    refine zr_icmp_le (tgt := 155) (pc' := 145) dX8_add_142 rfl rfl h.1.1 h.1.2 (fun hc => ?_) (fun hc => ?_)
                    · have h := h.2.1 hc
                      refine zr_aload_n (pc' := 156) (i := 0) dX8_add_155 rfl rfl rfl ?_
                      refine zr_dup (pc' := 157) dX8_add_156 rfl rfl ?_
                      refine zr_get (pc' := 160) dX8_add_157 rfl ps_26 kd_26 fl_X8_7 kc_8 (gv_26_0 _) ?_
                      refine zr_iload_n (pc' := 161) (i := 2) dX8_add_160 rfl rfl rfl ?_
                      refine zr_iadd (pc' := 162) dX8_add_161 rfl ?_
                      refine zr_put (pc' := 165) dX8_add_162 rfl ps_26 kd_26 fl_X8_7 kc_8 rfl nf_26_0 rfl trivial (fun M195 hM1 => ?_)
                      have h := h M195 hM1
                      refine zr_aload_n (pc' := 166) (i := 0) dX8_add_165 rfl rfl rfl ?_
                      refine zr_dup (pc' := 167) dX8_add_166 rfl rfl ?_
                      refine zr_get (pc' := 170) dX8_add_167 rfl ps_26 kd_26 fl_X8_13 kc_8 (gv_26_1 _) ?_
                      refine zr_iconst (pc' := 171) dX8_add_170 rfl ?_
                      refine zr_iadd (pc' := 172) dX8_add_171 rfl ?_
                      refine zr_put (pc' := 175) dX8_add_172 rfl ps_26 kd_26 fl_X8_13 kc_8 rfl nf_26_1 rfl trivial (fun M196 hM1 => ?_)
                      have h := h M196 hM1
                      exact zr_return (x := 0) dX8_add_175 rfl (Nat.le_refl _) (Nat.le_refl _) (And.intro rfl h)
                    · have h := h.2.2 hc
                      refine zr_aload_n (pc' := 146) (i := 0) dX8_add_145 rfl rfl rfl ?_
                      refine zr_iload_n (pc' := 147) (i := 1) dX8_add_146 rfl rfl rfl ?_
                      refine zr_put (pc' := 150) dX8_add_147 rfl ps_26 kd_26 fl_X8_33 kc_8 rfl nf_26_7 rfl trivial (fun M197 hM1 => ?_)
                      have h := h M197 hM1
                      refine zr_aload_n (pc' := 151) (i := 0) dX8_add_150 rfl rfl rfl ?_
                      refine zr_iload_n (pc' := 152) (i := 2) dX8_add_151 rfl rfl rfl ?_
                      refine zr_put (pc' := 155) dX8_add_152 rfl ps_26 kd_26 fl_X8_36 kc_8 rfl nf_26_8 rfl trivial (fun M198 hM1 => ?_)
                      have h := h M198 hM1
                      refine zr_aload_n (pc' := 156) (i := 0) dX8_add_155 rfl rfl rfl ?_
                      refine zr_dup (pc' := 157) dX8_add_156 rfl rfl ?_
                      refine zr_get (pc' := 160) dX8_add_157 rfl ps_26 kd_26 fl_X8_7 kc_8 (gv_26_0 _) ?_
                      refine zr_iload_n (pc' := 161) (i := 2) dX8_add_160 rfl rfl rfl ?_
                      refine zr_iadd (pc' := 162) dX8_add_161 rfl ?_
                      refine zr_put (pc' := 165) dX8_add_162 rfl ps_26 kd_26 fl_X8_7 kc_8 rfl nf_26_0 rfl trivial (fun M199 hM1 => ?_)
                      have h := h M199 hM1
                      refine zr_aload_n (pc' := 166) (i := 0) dX8_add_165 rfl rfl rfl ?_
                      refine zr_dup (pc' := 167) dX8_add_166 rfl rfl ?_
                      refine zr_get (pc' := 170) dX8_add_167 rfl ps_26 kd_26 fl_X8_13 kc_8 (gv_26_1 _) ?_
                      refine zr_iconst (pc' := 171) dX8_add_170 rfl ?_
                      refine zr_iadd (pc' := 172) dX8_add_171 rfl ?_
                      refine zr_put (pc' := 175) dX8_add_172 rfl ps_26 kd_26 fl_X8_13 kc_8 rfl nf_26_1 rfl trivial (fun M200 hM1 => ?_)
                      have h := h M200 hM1
                      exact zr_return (x := 0) dX8_add_175 rfl (Nat.le_refl _) (Nat.le_refl _) (And.intro rfl h)
              · have h := h.2.2 hc
                refine zr_aload_n (pc' := 108) (i := 0) dX8_add_107 rfl rfl rfl ?_
                refine zr_iload_n (pc' := 109) (i := 1) dX8_add_108 rfl rfl rfl ?_
                refine zr_put (pc' := 112) dX8_add_109 rfl ps_26 kd_26 fl_X8_27 kc_8 rfl nf_26_5 rfl trivial (fun M201 hM1 => ?_)
                have h := h M201 hM1
                refine zr_aload_n (pc' := 113) (i := 0) dX8_add_112 rfl rfl rfl ?_
                refine zr_iload_n (pc' := 114) (i := 2) dX8_add_113 rfl rfl rfl ?_
                refine zr_put (pc' := 117) dX8_add_114 rfl ps_26 kd_26 fl_X8_30 kc_8 rfl nf_26_6 rfl trivial (fun M202 hM1 => ?_)
                have h := h M202 hM1
                refine zr_iload_n (pc' := 118) (i := 3) dX8_add_117 rfl rfl rfl ?_
                refine zr_if_ne (tgt := 145) (pc' := 121) dX8_add_118 rfl rfl (zRd rfl) (fun hc => absurd hc (by decide)) (fun _ => ?_)
                refine zr_iload_n (pc' := 122) (i := 1) dX8_add_121 rfl rfl rfl ?_
                refine zr_aload_n (pc' := 123) (i := 0) dX8_add_122 rfl rfl rfl ?_
                refine zr_get (pc' := 126) dX8_add_123 rfl ps_26 kd_26 fl_X8_33 kc_8 (gv_26_7 _) ?_
                refine zr_icmp_gt (tgt := 145) (pc' := 129) dX8_add_126 rfl rfl h.1.1 h.1.2 (fun hc => ?_) (fun hc => ?_)
                · have h := h.2.1 hc
                  refine zr_aload_n (pc' := 146) (i := 0) dX8_add_145 rfl rfl rfl ?_
                  refine zr_iload_n (pc' := 147) (i := 1) dX8_add_146 rfl rfl rfl ?_
                  refine zr_put (pc' := 150) dX8_add_147 rfl ps_26 kd_26 fl_X8_33 kc_8 rfl nf_26_7 rfl trivial (fun M203 hM1 => ?_)
                  have h := h M203 hM1
                  refine zr_aload_n (pc' := 151) (i := 0) dX8_add_150 rfl rfl rfl ?_
                  refine zr_iload_n (pc' := 152) (i := 2) dX8_add_151 rfl rfl rfl ?_
                  refine zr_put (pc' := 155) dX8_add_152 rfl ps_26 kd_26 fl_X8_36 kc_8 rfl nf_26_8 rfl trivial (fun M204 hM1 => ?_)
                  have h := h M204 hM1
                  refine zr_aload_n (pc' := 156) (i := 0) dX8_add_155 rfl rfl rfl ?_
                  refine zr_dup (pc' := 157) dX8_add_156 rfl rfl ?_
                  refine zr_get (pc' := 160) dX8_add_157 rfl ps_26 kd_26 fl_X8_7 kc_8 (gv_26_0 _) ?_
                  refine zr_iload_n (pc' := 161) (i := 2) dX8_add_160 rfl rfl rfl ?_
                  refine zr_iadd (pc' := 162) dX8_add_161 rfl ?_
                  refine zr_put (pc' := 165) dX8_add_162 rfl ps_26 kd_26 fl_X8_7 kc_8 rfl nf_26_0 rfl trivial (fun M205 hM1 => ?_)
                  have h := h M205 hM1
                  refine zr_aload_n (pc' := 166) (i := 0) dX8_add_165 rfl rfl rfl ?_
                  refine zr_dup (pc' := 167) dX8_add_166 rfl rfl ?_
                  refine zr_get (pc' := 170) dX8_add_167 rfl ps_26 kd_26 fl_X8_13 kc_8 (gv_26_1 _) ?_
                  refine zr_iconst (pc' := 171) dX8_add_170 rfl ?_
                  refine zr_iadd (pc' := 172) dX8_add_171 rfl ?_
                  refine zr_put (pc' := 175) dX8_add_172 rfl ps_26 kd_26 fl_X8_13 kc_8 rfl nf_26_1 rfl trivial (fun M206 hM1 => ?_)
                  have h := h M206 hM1
                  exact zr_return (x := 0) dX8_add_175 rfl (Nat.le_refl _) (Nat.le_refl _) (And.intro rfl h)
                · have h := h.2.2 hc
                  refine zr_iload_n (pc' := 130) (i := 1) dX8_add_129 rfl rfl rfl ?_
                  refine zr_aload_n (pc' := 131) (i := 0) dX8_add_130 rfl rfl rfl ?_
                  refine zr_get (pc' := 134) dX8_add_131 rfl ps_26 kd_26 fl_X8_33 kc_8 (gv_26_7 _) ?_
                  refine zr_icmp_ne (tgt := 155) (pc' := 137) dX8_add_134 rfl rfl h.1.1 h.1.2 (fun hc => ?_) (fun hc => ?_)
                  · have h := h.2.1 hc
                    refine zr_aload_n (pc' := 156) (i := 0) dX8_add_155 rfl rfl rfl ?_
                    refine zr_dup (pc' := 157) dX8_add_156 rfl rfl ?_
                    refine zr_get (pc' := 160) dX8_add_157 rfl ps_26 kd_26 fl_X8_7 kc_8 (gv_26_0 _) ?_
                    refine zr_iload_n (pc' := 161) (i := 2) dX8_add_160 rfl rfl rfl ?_
                    refine zr_iadd (pc' := 162) dX8_add_161 rfl ?_
                    refine zr_put (pc' := 165) dX8_add_162 rfl ps_26 kd_26 fl_X8_7 kc_8 rfl nf_26_0 rfl trivial (fun M207 hM1 => ?_)
                    have h := h M207 hM1
                    refine zr_aload_n (pc' := 166) (i := 0) dX8_add_165 rfl rfl rfl ?_
                    refine zr_dup (pc' := 167) dX8_add_166 rfl rfl ?_
                    refine zr_get (pc' := 170) dX8_add_167 rfl ps_26 kd_26 fl_X8_13 kc_8 (gv_26_1 _) ?_
                    refine zr_iconst (pc' := 171) dX8_add_170 rfl ?_
                    refine zr_iadd (pc' := 172) dX8_add_171 rfl ?_
                    refine zr_put (pc' := 175) dX8_add_172 rfl ps_26 kd_26 fl_X8_13 kc_8 rfl nf_26_1 rfl trivial (fun M208 hM1 => ?_)
                    have h := h M208 hM1
                    exact zr_return (x := 0) dX8_add_175 rfl (Nat.le_refl _) (Nat.le_refl _) (And.intro rfl h)
                  · have h := h.2.2 hc
                    refine zr_iload_n (pc' := 138) (i := 2) dX8_add_137 rfl rfl rfl ?_
                    refine zr_aload_n (pc' := 139) (i := 0) dX8_add_138 rfl rfl rfl ?_
                    refine zr_get (pc' := 142) dX8_add_139 rfl ps_26 kd_26 fl_X8_36 kc_8 (gv_26_8 _) ?_
                    refine zr_icmp_le (tgt := 155) (pc' := 145) dX8_add_142 rfl rfl h.1.1 h.1.2 (fun hc => ?_) (fun hc => ?_)
                    · have h := h.2.1 hc
                      refine zr_aload_n (pc' := 156) (i := 0) dX8_add_155 rfl rfl rfl ?_
                      refine zr_dup (pc' := 157) dX8_add_156 rfl rfl ?_
                      refine zr_get (pc' := 160) dX8_add_157 rfl ps_26 kd_26 fl_X8_7 kc_8 (gv_26_0 _) ?_
                      refine zr_iload_n (pc' := 161) (i := 2) dX8_add_160 rfl rfl rfl ?_
                      refine zr_iadd (pc' := 162) dX8_add_161 rfl ?_
                      refine zr_put (pc' := 165) dX8_add_162 rfl ps_26 kd_26 fl_X8_7 kc_8 rfl nf_26_0 rfl trivial (fun M209 hM1 => ?_)
                      have h := h M209 hM1
                      refine zr_aload_n (pc' := 166) (i := 0) dX8_add_165 rfl rfl rfl ?_
                      refine zr_dup (pc' := 167) dX8_add_166 rfl rfl ?_
                      refine zr_get (pc' := 170) dX8_add_167 rfl ps_26 kd_26 fl_X8_13 kc_8 (gv_26_1 _) ?_
                      refine zr_iconst (pc' := 171) dX8_add_170 rfl ?_
                      refine zr_iadd (pc' := 172) dX8_add_171 rfl ?_
                      refine zr_put (pc' := 175) dX8_add_172 rfl ps_26 kd_26 fl_X8_13 kc_8 rfl nf_26_1 rfl trivial (fun M210 hM1 => ?_)
                      have h := h M210 hM1
                      exact zr_return (x := 0) dX8_add_175 rfl (Nat.le_refl _) (Nat.le_refl _) (And.intro rfl h)
                    · have h := h.2.2 hc
                      refine zr_aload_n (pc' := 146) (i := 0) dX8_add_145 rfl rfl rfl ?_
                      refine zr_iload_n (pc' := 147) (i := 1) dX8_add_146 rfl rfl rfl ?_
                      refine zr_put (pc' := 150) dX8_add_147 rfl ps_26 kd_26 fl_X8_33 kc_8 rfl nf_26_7 rfl trivial (fun M211 hM1 => ?_)
                      have h := h M211 hM1
                      refine zr_aload_n (pc' := 151) (i := 0) dX8_add_150 rfl rfl rfl ?_
                      refine zr_iload_n (pc' := 152) (i := 2) dX8_add_151 rfl rfl rfl ?_
                      refine zr_put (pc' := 155) dX8_add_152 rfl ps_26 kd_26 fl_X8_36 kc_8 rfl nf_26_8 rfl trivial (fun M212 hM1 => ?_)
                      have h := h M212 hM1
                      refine zr_aload_n (pc' := 156) (i := 0) dX8_add_155 rfl rfl rfl ?_
                      refine zr_dup (pc' := 157) dX8_add_156 rfl rfl ?_
                      refine zr_get (pc' := 160) dX8_add_157 rfl ps_26 kd_26 fl_X8_7 kc_8 (gv_26_0 _) ?_
                      refine zr_iload_n (pc' := 161) (i := 2) dX8_add_160 rfl rfl rfl ?_
                      refine zr_iadd (pc' := 162) dX8_add_161 rfl ?_
                      refine zr_put (pc' := 165) dX8_add_162 rfl ps_26 kd_26 fl_X8_7 kc_8 rfl nf_26_0 rfl trivial (fun M213 hM1 => ?_)
                      have h := h M213 hM1
                      refine zr_aload_n (pc' := 166) (i := 0) dX8_add_165 rfl rfl rfl ?_
                      refine zr_dup (pc' := 167) dX8_add_166 rfl rfl ?_
                      refine zr_get (pc' := 170) dX8_add_167 rfl ps_26 kd_26 fl_X8_13 kc_8 (gv_26_1 _) ?_
                      refine zr_iconst (pc' := 171) dX8_add_170 rfl ?_
                      refine zr_iadd (pc' := 172) dX8_add_171 rfl ?_
                      refine zr_put (pc' := 175) dX8_add_172 rfl ps_26 kd_26 fl_X8_13 kc_8 rfl nf_26_1 rfl trivial (fun M214 hM1 => ?_)
                      have h := h M214 hM1
                      exact zr_return (x := 0) dX8_add_175 rfl (Nat.le_refl _) (Nat.le_refl _) (And.intro rfl h)
    · have h := h.2.2 hc
      refine zr_iconst (pc' := 26) dX8_add_25 rfl ?_
      refine zr_goto (pc' := 30) dX8_add_26 rfl ?_
      refine zr_istore_n (pc' := 31) (i := 3) (al' := [(3, .inl 1), (0, .inr (.inr 26)), (1, .inl l1), (2, .inl l2)]) dX8_add_30 rfl rfl (by decide) rfl ?_
      refine zr_aload_n (pc' := 32) (i := 0) dX8_add_31 rfl rfl rfl ?_
      refine zr_iload_n (pc' := 33) (i := 3) dX8_add_32 rfl rfl rfl ?_
      refine zr_if_ne (tgt := 44) (pc' := 36) dX8_add_33 rfl rfl (zRd rfl) (fun _ => ?_) (fun hc => absurd hc (by decide))
      refine zr_iload_n (pc' := 45) (i := 2) dX8_add_44 rfl rfl rfl ?_
      refine zr_goto (pc' := 52) dX8_add_45 rfl ?_
      refine zr_put (pc' := 55) dX8_add_52 rfl ps_26 kd_26 fl_X8_21 kc_8 rfl nf_26_3 rfl trivial (fun M215 hM1 => ?_)
      have h := h M215 hM1
      refine zr_aload_n (pc' := 56) (i := 0) dX8_add_55 rfl rfl rfl ?_
      refine zr_iload_n (pc' := 57) (i := 3) dX8_add_56 rfl rfl rfl ?_
      refine zr_if_ne (tgt := 68) (pc' := 60) dX8_add_57 rfl rfl (zRd rfl) (fun _ => ?_) (fun hc => absurd hc (by decide))
      refine zr_iload_n (pc' := 69) (i := 2) dX8_add_68 rfl rfl rfl ?_
      refine zr_goto (pc' := 76) dX8_add_69 rfl ?_
      refine zr_put (pc' := 79) dX8_add_76 rfl ps_26 kd_26 fl_X8_24 kc_8 rfl nf_26_4 rfl trivial (fun M216 hM1 => ?_)
      have h := h M216 hM1
      refine zr_iload_n (pc' := 80) (i := 3) dX8_add_79 rfl rfl rfl ?_
      refine zr_if_ne (tgt := 107) (pc' := 83) dX8_add_80 rfl rfl (zRd rfl) (fun _ => ?_) (fun hc => absurd hc (by decide))
      refine zr_aload_n (pc' := 108) (i := 0) dX8_add_107 rfl rfl rfl ?_
      refine zr_iload_n (pc' := 109) (i := 1) dX8_add_108 rfl rfl rfl ?_
      refine zr_put (pc' := 112) dX8_add_109 rfl ps_26 kd_26 fl_X8_27 kc_8 rfl nf_26_5 rfl trivial (fun M217 hM1 => ?_)
      have h := h M217 hM1
      refine zr_aload_n (pc' := 113) (i := 0) dX8_add_112 rfl rfl rfl ?_
      refine zr_iload_n (pc' := 114) (i := 2) dX8_add_113 rfl rfl rfl ?_
      refine zr_put (pc' := 117) dX8_add_114 rfl ps_26 kd_26 fl_X8_30 kc_8 rfl nf_26_6 rfl trivial (fun M218 hM1 => ?_)
      have h := h M218 hM1
      refine zr_iload_n (pc' := 118) (i := 3) dX8_add_117 rfl rfl rfl ?_
      refine zr_if_ne (tgt := 145) (pc' := 121) dX8_add_118 rfl rfl (zRd rfl) (fun _ => ?_) (fun hc => absurd hc (by decide))
      refine zr_aload_n (pc' := 146) (i := 0) dX8_add_145 rfl rfl rfl ?_
      refine zr_iload_n (pc' := 147) (i := 1) dX8_add_146 rfl rfl rfl ?_
      refine zr_put (pc' := 150) dX8_add_147 rfl ps_26 kd_26 fl_X8_33 kc_8 rfl nf_26_7 rfl trivial (fun M219 hM1 => ?_)
      have h := h M219 hM1
      refine zr_aload_n (pc' := 151) (i := 0) dX8_add_150 rfl rfl rfl ?_
      refine zr_iload_n (pc' := 152) (i := 2) dX8_add_151 rfl rfl rfl ?_
      refine zr_put (pc' := 155) dX8_add_152 rfl ps_26 kd_26 fl_X8_36 kc_8 rfl nf_26_8 rfl trivial (fun M220 hM1 => ?_)
      have h := h M220 hM1
      refine zr_aload_n (pc' := 156) (i := 0) dX8_add_155 rfl rfl rfl ?_
      refine zr_dup (pc' := 157) dX8_add_156 rfl rfl ?_
      refine zr_get (pc' := 160) dX8_add_157 rfl ps_26 kd_26 fl_X8_7 kc_8 (gv_26_0 _) ?_
      refine zr_iload_n (pc' := 161) (i := 2) dX8_add_160 rfl rfl rfl ?_
      refine zr_iadd (pc' := 162) dX8_add_161 rfl ?_
      refine zr_put (pc' := 165) dX8_add_162 rfl ps_26 kd_26 fl_X8_7 kc_8 rfl nf_26_0 rfl trivial (fun M221 hM1 => ?_)
      have h := h M221 hM1
      refine zr_aload_n (pc' := 166) (i := 0) dX8_add_165 rfl rfl rfl ?_
      refine zr_dup (pc' := 167) dX8_add_166 rfl rfl ?_
      refine zr_get (pc' := 170) dX8_add_167 rfl ps_26 kd_26 fl_X8_13 kc_8 (gv_26_1 _) ?_
      refine zr_iconst (pc' := 171) dX8_add_170 rfl ?_
      refine zr_iadd (pc' := 172) dX8_add_171 rfl ?_
      refine zr_put (pc' := 175) dX8_add_172 rfl ps_26 kd_26 fl_X8_13 kc_8 rfl nf_26_1 rfl trivial (fun M222 hM1 => ?_)
      have h := h M222 hM1
      exact zr_return (x := 0) dX8_add_175 rfl (Nat.le_refl _) (Nat.le_refl _) (And.intro rfl h)
  · have h := h.2.2 hc
    refine zr_aload_n (pc' := 8) (i := 0) dX8_add_7 rfl rfl rfl ?_
    refine zr_dup (pc' := 9) dX8_add_8 rfl rfl ?_
    refine zr_get (pc' := 12) dX8_add_9 rfl ps_26 kd_26 fl_X8_16 kc_8 (gv_26_2 _) ?_
    refine zr_iconst (pc' := 13) dX8_add_12 rfl ?_
    refine zr_iadd (pc' := 14) dX8_add_13 rfl ?_
    refine zr_put (pc' := 17) dX8_add_14 rfl ps_26 kd_26 fl_X8_16 kc_8 rfl nf_26_2 rfl trivial (fun M223 hM1 => ?_)
    have h := h M223 hM1
    exact zr_return (x := 0) dX8_add_17 rfl (Nat.le_refl _) (Nat.le_refl _) (And.intro rfl h)
