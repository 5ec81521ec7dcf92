set_option maxRecDepth 20000 in
theorem vcX11_within {E : zE} {M : zM} {Q : Int → zM → Prop} (l0 l1 l2 : Int)
    (h : ((zR l0 ∧ zR l1) ∧ ((l0 < l1 → Q 0 M) ∧ (l1 ≤ l0 → ((zR l0 ∧ zR l2) ∧ ((l2 < l0 → Q 0 M) ∧ (l0 ≤ l2 → Q 1 M)))))))
    : zP E mX11_within [.inl l0, .inl l1, .inl l2] M Q := by
  refine zP_of (by decide +kernel) rfl (Nat.le_of_ble_eq_true rfl) ?_
  show zA E zNN (0, 0) mX11_within 0 [(0, .inl l0), (1, .inl l1), (2, .inl l2)] [] M (zQ Q)
  refine zr_iload_n (pc' := 1) (i := 0) dX11_within_0 rfl rfl rfl ?_
  refine zr_iload_n (pc' := 2) (i := 1) dX11_within_1 rfl rfl rfl ?_
  refine zr_icmp_lt (tgt := 14) (pc' := 5) dX11_within_2 rfl rfl h.1.1 h.1.2 (fun hc => ?_) (fun hc => ?_)
  · have h := h.2.1 hc
    refine zr_iconst (pc' := 15) dX11_within_14 rfl ?_
    exact zr_ireturn dX11_within_15 rfl rfl (Or.inl rfl) (Nat.le_refl _) (Nat.le_refl _) (And.intro rfl h)
  · have h := h.2.2 hc
    refine zr_iload_n (pc' := 6) (i := 0) dX11_within_5 rfl rfl rfl ?_
    refine zr_iload_n (pc' := 7) (i := 2) dX11_within_6 rfl rfl rfl ?_
    refine zr_icmp_gt (tgt := 14) (pc' := 10) dX11_within_7 rfl rfl h.1.1 h.1.2 (fun hc => ?_) (fun hc => ?_)
    · have h := h.2.1 hc
      refine zr_iconst (pc' := 15) dX11_within_14 rfl ?_
      exact zr_ireturn dX11_within_15 rfl rfl (Or.inl rfl) (Nat.le_refl _) (Nat.le_refl _) (And.intro rfl h)
    · have h := h.2.2 hc
      refine zr_iconst (pc' := 11) dX11_within_10 rfl ?_
      refine zr_goto (pc' := 15) dX11_within_11 rfl ?_
      exact zr_ireturn dX11_within_15 rfl rfl (Or.inr rfl) (Nat.le_refl _) (Nat.le_refl _) (And.intro rfl h)
set_option maxRecDepth 20000 in
theorem vcX11_isHour {E : zE} {M : zM} {Q : Int → zM → Prop} (l0 : Int)
    (h : (zP E mX11_within [.inl l0, .inl 0, .inl 99] M (fun r1 M2 => ((r1 = 0 ∨ r1 = 1) ∧ Q r1 M2))))
    : zP E mX11_isHour [.inl l0] M Q := by
  refine zP_of (by decide +kernel) rfl (Nat.le_of_ble_eq_true rfl) ?_
  show zA E zNN (0, 0) mX11_isHour 0 [(0, .inl l0)] [] M (zQ Q)
  refine zr_iload_n (pc' := 1) (i := 0) dX11_isHour_0 rfl rfl rfl ?_
  refine zr_iconst (pc' := 2) dX11_isHour_1 rfl ?_
  refine zr_bipush (pc' := 4) dX11_isHour_2 rfl rfl ?_
  refine zn_callS (pc' := 7) (args := [.inl l0, .inl 0, .inl 99]) (st := []) (st' := fun r1 => [.inl r1]) dX11_isHour_4 rfl cs_X11_120 ⟨rfl, rfl, by decide, by decide⟩ rfl rfl rfl (Nat.le_of_ble_eq_true rfl) (fun _ => rfl) h ?_
  intro r1 M2 h
  exact zr_ireturn dX11_isHour_7 rfl rfl h.1 (Nat.le_refl _) (Nat.le_refl _) (And.intro rfl h.2)
set_option maxRecDepth 20000 in
theorem vcX11_isWorld {E : zE} {M : zM} {Q : Int → zM → Prop} (l1 : Int)
    (h : (zP E mX11_within [.inl l1, .inl 0, .inl ((M 0 11) - 1)] M (fun r1 M2 => ((r1 = 0 ∨ r1 = 1) ∧ Q r1 M2))))
    : zP E mX11_isWorld [.inr (.inr 0), .inl l1] M Q := by
  refine zP_of (by decide +kernel) rfl (Nat.le_of_ble_eq_true rfl) ?_
  show zA E zNN (0, 0) mX11_isWorld 0 [(0, .inr (.inr 0)), (1, .inl l1)] [] M (zQ Q)
  refine zr_iload_n (pc' := 1) (i := 1) dX11_isWorld_0 rfl rfl rfl ?_
  refine zr_iconst (pc' := 2) dX11_isWorld_1 rfl ?_
  refine zr_aload_n (pc' := 3) (i := 0) dX11_isWorld_2 rfl rfl rfl ?_
  refine zr_get (pc' := 6) dX11_isWorld_3 rfl ps_0 kd_0 fl_X11_174 kc_11 (gv_0_11 _) ?_
  refine zr_iconst (pc' := 7) dX11_isWorld_6 rfl ?_
  refine zr_isub (pc' := 8) dX11_isWorld_7 rfl ?_
  refine zn_callS (pc' := 11) (args := [.inl l1, .inl 0, .inl ((M 0 11) - 1)]) (st := []) (st' := fun r1 => [.inl r1]) dX11_isWorld_8 rfl cs_X11_120 ⟨rfl, rfl, by decide, by decide⟩ rfl rfl rfl (Nat.le_of_ble_eq_true rfl) (fun _ => rfl) h ?_
  intro r1 M2 h
  exact zr_ireturn dX11_isWorld_11 rfl rfl h.1 (Nat.le_refl _) (Nat.le_refl _) (And.intro rfl h.2)
set_option maxRecDepth 20000 in
theorem vcX11_stepsDownwind {E : zE} {M : zM} {Q : Int → zM → Prop} (l0 l1 l2 : Int)
    (h : (zR l0) ∧ (zR l1) ∧ (zR (if 0 ≤ l0 then l0 else 0 - l0) ∧ zR (if 0 ≤ l1 then l1 else 0 - l1)) ∧ (zP E mX11_within [.inl l2, .inl 0, .inl 7] M (fun r1 M2 => ((zR r1) ∧ ((r1 = 0 → Q (-1) M2) ∧ (¬ r1 = 0 → (0 ≤ l2 ∧ l2 < 8) ∧ ((zR ((([1, 1, 0, -1, -1, -1, 0, 1] : List Int).getD l2.toNat 0) * (if (if 0 ≤ l0 then l0 else 0 - l0) < (if 0 ≤ l1 then l1 else 0 - l1) then (if 0 ≤ l1 then l1 else 0 - l1) else (if 0 ≤ l0 then l0 else 0 - l0))) ∧ zR l0) ∧ ((¬ ((([1, 1, 0, -1, -1, -1, 0, 1] : List Int).getD l2.toNat 0) * (if (if 0 ≤ l0 then l0 else 0 - l0) < (if 0 ≤ l1 then l1 else 0 - l1) then (if 0 ≤ l1 then l1 else 0 - l1) else (if 0 ≤ l0 then l0 else 0 - l0))) = l0 → Q (-1) M2) ∧ (((([1, 1, 0, -1, -1, -1, 0, 1] : List Int).getD l2.toNat 0) * (if (if 0 ≤ l0 then l0 else 0 - l0) < (if 0 ≤ l1 then l1 else 0 - l1) then (if 0 ≤ l1 then l1 else 0 - l1) else (if 0 ≤ l0 then l0 else 0 - l0))) = l0 → (0 ≤ l2 ∧ l2 < 8) ∧ ((zR ((([0, 1, 1, 1, 0, -1, -1, -1] : List Int).getD l2.toNat 0) * (if (if 0 ≤ l0 then l0 else 0 - l0) < (if 0 ≤ l1 then l1 else 0 - l1) then (if 0 ≤ l1 then l1 else 0 - l1) else (if 0 ≤ l0 then l0 else 0 - l0))) ∧ zR l1) ∧ ((((([0, 1, 1, 1, 0, -1, -1, -1] : List Int).getD l2.toNat 0) * (if (if 0 ≤ l0 then l0 else 0 - l0) < (if 0 ≤ l1 then l1 else 0 - l1) then (if 0 ≤ l1 then l1 else 0 - l1) else (if 0 ≤ l0 then l0 else 0 - l0))) = l1 → Q (if (if 0 ≤ l0 then l0 else 0 - l0) < (if 0 ≤ l1 then l1 else 0 - l1) then (if 0 ≤ l1 then l1 else 0 - l1) else (if 0 ≤ l0 then l0 else 0 - l0)) M2) ∧ (¬ ((([0, 1, 1, 1, 0, -1, -1, -1] : List Int).getD l2.toNat 0) * (if (if 0 ≤ l0 then l0 else 0 - l0) < (if 0 ≤ l1 then l1 else 0 - l1) then (if 0 ≤ l1 then l1 else 0 - l1) else (if 0 ≤ l0 then l0 else 0 - l0))) = l1 → Q (-1) M2))))))))))))
    : zP E mX11_stepsDownwind [.inl l0, .inl l1, .inl l2] M Q := by
  refine zP_of (by decide +kernel) rfl (Nat.le_of_ble_eq_true rfl) ?_
  show zA E zNN (0, 0) mX11_stepsDownwind 0 [(0, .inl l0), (1, .inl l1), (2, .inl l2)] [] M (zQ Q)
  refine zr_iload_n (pc' := 1) (i := 0) dX11_stepsDownwind_0 rfl rfl rfl ?_
  refine zr_abs (pc' := 4) dX11_stepsDownwind_1 rfl ml_X11_359.1 ml_X11_359.2.1 ml_X11_359.2.2.1 ml_X11_359.2.2.2 (by decide) (Nat.le_of_ble_eq_true rfl) (Nat.zero_le _) (Nat.zero_le _) h.1 ?_
  have h := h.2
  refine zr_iload_n (pc' := 5) (i := 1) dX11_stepsDownwind_4 rfl rfl rfl ?_
  refine zr_abs (pc' := 8) dX11_stepsDownwind_5 rfl ml_X11_359.1 ml_X11_359.2.1 ml_X11_359.2.2.1 ml_X11_359.2.2.2 (by decide) (Nat.le_of_ble_eq_true rfl) (Nat.zero_le _) (Nat.zero_le _) h.1 ?_
  have h := h.2
  refine zr_max (pc' := 11) dX11_stepsDownwind_8 rfl ml_X11_161.1 ml_X11_161.2.1 ml_X11_161.2.2.1 ml_X11_161.2.2.2 (by decide) (Nat.le_of_ble_eq_true rfl) (Nat.zero_le _) (Nat.zero_le _) h.1.1 h.1.2 ?_
  have h := h.2
  refine zr_istore_n (pc' := 12) (i := 3) (al' := [(3, .inl (if (if 0 ≤ l0 then l0 else 0 - l0) < (if 0 ≤ l1 then l1 else 0 - l1) then (if 0 ≤ l1 then l1 else 0 - l1) else (if 0 ≤ l0 then l0 else 0 - l0))), (0, .inl l0), (1, .inl l1), (2, .inl l2)]) dX11_stepsDownwind_11 rfl rfl (by decide) rfl ?_
  refine zr_iload_n (pc' := 13) (i := 2) dX11_stepsDownwind_12 rfl rfl rfl ?_
  refine zr_iconst (pc' := 14) dX11_stepsDownwind_13 rfl ?_
  refine zr_bipush (pc' := 16) dX11_stepsDownwind_14 rfl rfl ?_
  refine zn_callS (pc' := 19) (args := [.inl l2, .inl 0, .inl 7]) (st := []) (st' := fun r1 => [.inl r1]) dX11_stepsDownwind_16 rfl cs_X11_120 ⟨rfl, rfl, by decide, by decide⟩ rfl rfl rfl (Nat.le_of_ble_eq_true rfl) (fun _ => rfl) h ?_
  intro r1 M2 h
  refine zr_if_eq (tgt := 44) (pc' := 22) dX11_stepsDownwind_19 rfl rfl h.1 (fun hc => ?_) (fun hc => ?_)
  · have h := h.2.1 hc
    refine zr_iconst (pc' := 45) dX11_stepsDownwind_44 rfl ?_
    exact zr_ireturn dX11_stepsDownwind_45 rfl rfl trivial (Nat.le_refl _) (Nat.le_refl _) (And.intro rfl h)
  · have h := h.2.2 hc
    refine zr_gets (q := ("VolcanoWatch", "STEP_X", 2, [1, 1, 0, -1, -1, -1, 0, 1])) (r := -2) (pc' := 25) dX11_stepsDownwind_22 rfl ou_2 gl_X11_362 (by decide) rfl ?_
    refine zr_iload_n (pc' := 26) (i := 2) dX11_stepsDownwind_25 rfl rfl rfl ?_
    refine zr_ialdO (q := ("VolcanoWatch", "STEP_X", 2, [1, 1, 0, -1, -1, -1, 0, 1])) (pc' := 27) dX11_stepsDownwind_26 rfl ou_2 (by decide) rfl (by decide) h.1.1 h.1.2 ?_
    have h := h.2
    refine zr_iload_n (pc' := 28) (i := 3) dX11_stepsDownwind_27 rfl rfl rfl ?_
    refine zr_imul (pc' := 29) dX11_stepsDownwind_28 rfl ?_
    refine zr_iload_n (pc' := 30) (i := 0) dX11_stepsDownwind_29 rfl rfl rfl ?_
    refine zr_icmp_ne (tgt := 44) (pc' := 33) dX11_stepsDownwind_30 rfl rfl h.1.1 h.1.2 (fun hc => ?_) (fun hc => ?_)
    · have h := h.2.1 hc
      refine zr_iconst (pc' := 45) dX11_stepsDownwind_44 rfl ?_
      exact zr_ireturn dX11_stepsDownwind_45 rfl rfl trivial (Nat.le_refl _) (Nat.le_refl _) (And.intro rfl h)
    · have h := h.2.2 hc
      refine zr_gets (q := ("VolcanoWatch", "STEP_Y", 3, [0, 1, 1, 1, 0, -1, -1, -1])) (r := -3) (pc' := 36) dX11_stepsDownwind_33 rfl ou_3 gl_X11_365 (by decide) rfl ?_
      refine zr_iload_n (pc' := 37) (i := 2) dX11_stepsDownwind_36 rfl rfl rfl ?_
      refine zr_ialdO (q := ("VolcanoWatch", "STEP_Y", 3, [0, 1, 1, 1, 0, -1, -1, -1])) (pc' := 38) dX11_stepsDownwind_37 rfl ou_3 (by decide) rfl (by decide) h.1.1 h.1.2 ?_
      have h := h.2
      refine zr_iload_n (pc' := 39) (i := 3) dX11_stepsDownwind_38 rfl rfl rfl ?_
      refine zr_imul (pc' := 40) dX11_stepsDownwind_39 rfl ?_
      refine zr_iload_n (pc' := 41) (i := 1) dX11_stepsDownwind_40 rfl rfl rfl ?_
      refine zr_icmp_eq (tgt := 46) (pc' := 44) dX11_stepsDownwind_41 rfl rfl h.1.1 h.1.2 (fun hc => ?_) (fun hc => ?_)
      · have h := h.2.1 hc
        refine zr_iload_n (pc' := 47) (i := 3) dX11_stepsDownwind_46 rfl rfl rfl ?_
        exact zr_ireturn dX11_stepsDownwind_47 rfl rfl trivial (Nat.le_refl _) (Nat.le_refl _) (And.intro rfl h)
      · have h := h.2.2 hc
        refine zr_iconst (pc' := 45) dX11_stepsDownwind_44 rfl ?_
        exact zr_ireturn dX11_stepsDownwind_45 rfl rfl trivial (Nat.le_refl _) (Nat.le_refl _) (And.intro rfl h)
set_option maxRecDepth 20000 in
theorem vcX11_rawInOwnHour {E : zE} {M : zM} {Q : Int → zM → Prop} (l1 : Int) (I5 : Nat → Int → Int → zM → Prop)
    (h : ∃ n', I5 n' l1 (M 0 6) M)
    (h5 : ∀ (n : Nat) (l1 l2 : Int) (M : zM), I5 n l1 l2 M → ((zR l2 ∧ zR l1) ∧ ((l1 < l2 → (0 ≤ l1 ∧ l1 < 100) ∧ Q (M 27 l1.toNat) M) ∧ (l2 ≤ l1 → zIs_6 (M 0 2) ∧ (zP E mX6_greatestLevel [.inr (.inr (M 0 2)), .inr (.inr 20), .inl l2, .inl l2] M (fun r2 M3 => (0 ≤ l2 ∧ l2 < 100) ∧ (∀ M4, M4 = zup M3 27 l2.toNat r2 → (∀ M5, M5 = zup M4 0 6 (l2 + 1) → ∃ n', n' < n ∧ I5 n' l1 (l2 + 1) M5))))))))
    : zP E mX11_rawInOwnHour [.inr (.inr 0), .inl l1] M Q := by
  have key : ∀ n : Nat, (∀ (l1 l2 : Int) (M : zM), I5 n l1 l2 M → zA E zNN (0, 0) mX11_rawInOwnHour 5 [(0, .inr (.inr 0)), (1, .inl l1), (2, .inl l2)] [] M (zQ Q)) := by
    intro n
    induction n using Nat.strongRecOn with
    | ind n ih =>
      intro l1 l2 M h
      have h := h5 n l1 l2 M h
      refine zr_iload_n (pc' := 6) (i := 2) dX11_rawInOwnHour_5 rfl rfl rfl ?_
      refine zr_iload_n (pc' := 7) (i := 1) dX11_rawInOwnHour_6 rfl rfl rfl ?_
      refine zr_icmp_gt (tgt := 42) (pc' := 10) dX11_rawInOwnHour_7 rfl rfl h.1.1 h.1.2 (fun hc => ?_) (fun hc => ?_)
      · have h := h.2.1 hc
        refine zr_aload_n (pc' := 43) (i := 0) dX11_rawInOwnHour_42 rfl rfl rfl ?_
        refine zr_get (pc' := 46) dX11_rawInOwnHour_43 rfl ps_0 kd_0 fl_X11_33 kc_11 (gv_0_5 _) ?_
        refine zr_iload_n (pc' := 47) (i := 1) dX11_rawInOwnHour_46 rfl rfl rfl ?_
        refine zr_iald (pc' := 48) dX11_rawInOwnHour_47 rfl ps_27 kd_27 (by decide) h.1.1 h.1.2 ?_
        have h := h.2
        exact zr_ireturn dX11_rawInOwnHour_48 rfl rfl trivial (Nat.le_refl _) (Nat.le_refl _) (And.intro rfl h)
      · have h := h.2.2 hc
        refine zr_aload_n (pc' := 11) (i := 0) dX11_rawInOwnHour_10 rfl rfl rfl ?_
        refine zr_get (pc' := 14) dX11_rawInOwnHour_11 rfl ps_0 kd_0 fl_X11_33 kc_11 (gv_0_5 _) ?_
        refine zr_iload_n (pc' := 15) (i := 2) dX11_rawInOwnHour_14 rfl rfl rfl ?_
        refine zr_aload_n (pc' := 16) (i := 0) dX11_rawInOwnHour_15 rfl rfl rfl ?_
        refine zr_get (pc' := 19) dX11_rawInOwnHour_16 rfl ps_0 kd_0 fl_X11_19 kc_11 (gv_0_2 _) ?_
        refine zr_aload_n (pc' := 20) (i := 0) dX11_rawInOwnHour_19 rfl rfl rfl ?_
        refine zr_get (pc' := 23) dX11_rawInOwnHour_20 rfl ps_0 kd_0 fl_X11_29 kc_11 (gv_0_4 _) ?_
        refine zr_iload_n (pc' := 24) (i := 2) dX11_rawInOwnHour_23 rfl rfl rfl ?_
        refine zr_iload_n (pc' := 25) (i := 2) dX11_rawInOwnHour_24 rfl rfl rfl ?_
        have hi1 := h.1
        have h := h.2
        refine zn_callV (pc' := 28) (args := [.inr (.inr 20), .inl l2, .inl l2]) (st := [.inl l2, .inr (.inr 27)]) (st' := fun r2 => [.inl r2, .inl l2, .inr (.inr 27)]) dX11_rawInOwnHour_25 rfl cv_X11_145 ⟨rfl, rfl, by decide, by decide⟩ rfl (is_6_pos hi1) (is_6_kd hi1) rfl rfl (Nat.le_of_ble_eq_true rfl) (fun _ => rfl) h ?_
        intro r2 M3 h
        refine zr_iast (pc' := 29) dX11_rawInOwnHour_28 rfl ps_27 kd_27 (by decide) h.1.1 h.1.2 (fun M4 hM1 => ?_)
        have h := h.2 M4 hM1
        refine zr_aload_n (pc' := 30) (i := 0) dX11_rawInOwnHour_29 rfl rfl rfl ?_
        refine zr_iload_n (pc' := 31) (i := 2) dX11_rawInOwnHour_30 rfl rfl rfl ?_
        refine zr_iconst (pc' := 32) dX11_rawInOwnHour_31 rfl ?_
        refine zr_iadd (pc' := 33) dX11_rawInOwnHour_32 rfl ?_
        refine zr_put (pc' := 36) dX11_rawInOwnHour_33 rfl ps_0 kd_0 fl_X11_368 kc_11 rfl nf_0_6 rfl trivial (fun M5 hM1 => ?_)
        have h := h M5 hM1
        refine zr_iinc (pc' := 39) (al' := [(2, .inl (l2 + 1)), (0, .inr (.inr 0)), (1, .inl l1)]) dX11_rawInOwnHour_36 rfl rfl (by decide) rfl ?_
        refine zr_goto (pc' := 5) dX11_rawInOwnHour_39 rfl ?_
        obtain ⟨n', hn, h⟩ := h
        exact zn_al ((ih n' hn) _ _ _ h) ⟨rfl, rfl, rfl, trivial⟩
  refine zP_of (by decide +kernel) rfl (Nat.le_of_ble_eq_true rfl) ?_
  show zA E zNN (0, 0) mX11_rawInOwnHour 0 [(0, .inr (.inr 0)), (1, .inl l1)] [] M (zQ Q)
  refine zr_aload_n (pc' := 1) (i := 0) dX11_rawInOwnHour_0 rfl rfl rfl ?_
  refine zr_get (pc' := 4) dX11_rawInOwnHour_1 rfl ps_0 kd_0 fl_X11_368 kc_11 (gv_0_6 _) ?_
  refine zr_istore_n (pc' := 5) (i := 2) (al' := [(2, .inl (M 0 6)), (0, .inr (.inr 0)), (1, .inl l1)]) dX11_rawInOwnHour_4 rfl rfl (by decide) rfl ?_
  obtain ⟨n', h⟩ := h
  exact zn_al ((key n') _ _ _ h) ⟨rfl, rfl, rfl, trivial⟩
set_option maxRecDepth 20000 in
theorem vcX11_noteWarnings {E : zE} {M : zM} {Q : Int → zM → Prop} (I17 : Nat → Int → zM → Prop)
    (h : ((zR (M 0 7)) ∧ (((M 0 7) = 0 → (zP E mX3_forgetWarnings [.inr (.inr 44)] M (fun r1 M2 => ∃ n', I17 n' 0 M2))) ∧ (¬ (M 0 7) = 0 → Q 0 M))))
    (h17 : ∀ (n : Nat) (l1 : Int) (M : zM), I17 n l1 M → ((zR l1) ∧ ((100 ≤ l1 → (∀ M3, M3 = zup M 0 7 1 → Q 0 M3)) ∧ (l1 < 100 → (zP E mX3_someUnwarned [.inr (.inr 44)] M (fun r4 M5 => ((zR r4) ∧ ((r4 = 0 → (∀ M6, M6 = zup M5 0 7 1 → Q 0 M6)) ∧ (¬ r4 = 0 → (zP E mX11_rawInOwnHour [.inr (.inr 0), .inl l1] M5 (fun r7 M8 => (zP E mX3_warn [.inr (.inr 44), .inl l1, .inl r7] M8 (fun r9 M10 => ∃ n', n' < n ∧ I17 n' (l1 + 1) M10)))))))))))))
    : zP E mX11_noteWarnings [.inr (.inr 0)] M Q := by
  have key : ∀ n : Nat, (∀ (l1 : Int) (M : zM), I17 n l1 M → zA E zNN (0, 0) mX11_noteWarnings 17 [(0, .inr (.inr 0)), (1, .inl l1)] [] M (zQ Q)) := by
    intro n
    induction n using Nat.strongRecOn with
    | ind n ih =>
      intro l1 M h
      have h := h17 n l1 M h
      refine zr_iload_n (pc' := 18) (i := 1) dX11_noteWarnings_17 rfl rfl rfl ?_
      refine zr_bipush (pc' := 20) dX11_noteWarnings_18 rfl rfl ?_
      refine zr_icmp_ge (tgt := 52) (pc' := 23) dX11_noteWarnings_20 rfl rfl h.1 (zRd rfl) (fun hc => ?_) (fun hc => ?_)
      · have h := h.2.1 hc
        refine zr_aload_n (pc' := 53) (i := 0) dX11_noteWarnings_52 rfl rfl rfl ?_
        refine zr_iconst (pc' := 54) dX11_noteWarnings_53 rfl ?_
        refine zr_put (pc' := 57) dX11_noteWarnings_54 rfl ps_0 kd_0 fl_X11_371 kc_11 rfl nf_0_7 rfl (Or.inr rfl) (fun M3 hM1 => ?_)
        have h := h M3 hM1
        exact zr_return (x := 0) dX11_noteWarnings_57 rfl (Nat.le_refl _) (Nat.le_refl _) (And.intro rfl h)
      · have h := h.2.2 hc
        refine zr_aload_n (pc' := 24) (i := 0) dX11_noteWarnings_23 rfl rfl rfl ?_
        refine zr_get (pc' := 27) dX11_noteWarnings_24 rfl ps_0 kd_0 fl_X11_64 kc_11 (gv_0_13 _) ?_
        refine zn_callV (pc' := 30) (args := []) (st := []) (st' := fun r4 => [.inl r4]) dX11_noteWarnings_27 rfl cv_X11_377 ⟨rfl, rfl, by decide, by decide⟩ rfl ps_44 kd_44 rfl rfl (Nat.le_of_ble_eq_true rfl) (fun _ => rfl) h ?_
        intro r4 M5 h
        refine zr_if_eq (tgt := 52) (pc' := 33) dX11_noteWarnings_30 rfl rfl h.1 (fun hc => ?_) (fun hc => ?_)
        · have h := h.2.1 hc
          refine zr_aload_n (pc' := 53) (i := 0) dX11_noteWarnings_52 rfl rfl rfl ?_
          refine zr_iconst (pc' := 54) dX11_noteWarnings_53 rfl ?_
          refine zr_put (pc' := 57) dX11_noteWarnings_54 rfl ps_0 kd_0 fl_X11_371 kc_11 rfl nf_0_7 rfl (Or.inr rfl) (fun M6 hM1 => ?_)
          have h := h M6 hM1
          exact zr_return (x := 0) dX11_noteWarnings_57 rfl (Nat.le_refl _) (Nat.le_refl _) (And.intro rfl h)
        · have h := h.2.2 hc
          refine zr_aload_n (pc' := 34) (i := 0) dX11_noteWarnings_33 rfl rfl rfl ?_
          refine zr_get (pc' := 37) dX11_noteWarnings_34 rfl ps_0 kd_0 fl_X11_64 kc_11 (gv_0_13 _) ?_
          refine zr_iload_n (pc' := 38) (i := 1) dX11_noteWarnings_37 rfl rfl rfl ?_
          refine zr_aload_n (pc' := 39) (i := 0) dX11_noteWarnings_38 rfl rfl rfl ?_
          refine zr_iload_n (pc' := 40) (i := 1) dX11_noteWarnings_39 rfl rfl rfl ?_
          refine zn_callV (pc' := 43) (args := [.inl l1]) (st := [.inl l1, .inr (.inr 44)]) (st' := fun r7 => [.inl r7, .inl l1, .inr (.inr 44)]) dX11_noteWarnings_40 rfl cv_X11_167 ⟨rfl, rfl, by decide, by decide⟩ rfl ps_0 kd_0 rfl rfl (Nat.le_of_ble_eq_true rfl) (fun _ => rfl) h ?_
          intro r7 M8 h
          refine zn_callV (pc' := 46) (args := [.inl l1, .inl r7]) (st := []) (st' := fun _ => []) dX11_noteWarnings_43 rfl cv_X11_381 ⟨rfl, rfl, by decide, by decide⟩ rfl ps_44 kd_44 rfl rfl (Nat.le_of_ble_eq_true rfl) (fun _ => rfl) h ?_
          intro r9 M10 h
          refine zr_iinc (pc' := 49) (al' := [(1, .inl (l1 + 1)), (0, .inr (.inr 0))]) dX11_noteWarnings_46 rfl rfl (by decide) rfl ?_
          refine zr_goto (pc' := 17) dX11_noteWarnings_49 rfl ?_
          obtain ⟨n', hn, h⟩ := h
          exact zn_al ((ih n' hn) _ _ h) ⟨rfl, rfl, trivial⟩
  refine zP_of (by decide +kernel) rfl (Nat.le_of_ble_eq_true rfl) ?_
  show zA E zNN (0, 0) mX11_noteWarnings 0 [(0, .inr (.inr 0))] [] M (zQ Q)
  refine zr_aload_n (pc' := 1) (i := 0) dX11_noteWarnings_0 rfl rfl rfl ?_
  refine zr_get (pc' := 4) dX11_noteWarnings_1 rfl ps_0 kd_0 fl_X11_371 kc_11 (gv_0_7 _) ?_
  refine zr_if_eq (tgt := 8) (pc' := 7) dX11_noteWarnings_4 rfl rfl h.1 (fun hc => ?_) (fun hc => ?_)
  · have h := h.2.1 hc
    refine zr_aload_n (pc' := 9) (i := 0) dX11_noteWarnings_8 rfl rfl rfl ?_
    refine zr_get (pc' := 12) dX11_noteWarnings_9 rfl ps_0 kd_0 fl_X11_64 kc_11 (gv_0_13 _) ?_
    refine zn_callV (pc' := 15) (args := []) (st := []) (st' := fun _ => []) dX11_noteWarnings_12 rfl cv_X11_374 ⟨rfl, rfl, by decide, by decide⟩ rfl ps_44 kd_44 rfl rfl (Nat.le_of_ble_eq_true rfl) (fun _ => rfl) h ?_
    intro r1 M2 h
    refine zr_iconst (pc' := 16) dX11_noteWarnings_15 rfl ?_
    refine zr_istore_n (pc' := 17) (i := 1) (al' := [(1, .inl 0), (0, .inr (.inr 0))]) dX11_noteWarnings_16 rfl rfl (by decide) rfl ?_
    obtain ⟨n', h⟩ := h
    exact zn_al ((key n') _ _ h) ⟨rfl, rfl, trivial⟩
  · have h := h.2.2 hc
    exact zr_return (x := 0) dX11_noteWarnings_7 rfl (Nat.le_refl _) (Nat.le_refl _) (And.intro rfl h)
set_option maxRecDepth 20000 in
theorem vcX11_alertsChanged {E : zE} {M : zM} {Q : Int → zM → Prop} (l1 : Int)
    (h : (zR (M 0 6) ∧ zR l1) ∧ (∀ M1, M1 = zup M 0 6 (if l1 < (M 0 6) then l1 else (M 0 6)) → (zP E mX11_escapeChanged [.inr (.inr 0)] M1 (fun r2 M3 => Q 0 M3))))
    : zP E mX11_alertsChanged [.inr (.inr 0), .inl l1] M Q := by
  refine zP_of (by decide +kernel) rfl (Nat.le_of_ble_eq_true rfl) ?_
  show zA E zNN (0, 0) mX11_alertsChanged 0 [(0, .inr (.inr 0)), (1, .inl l1)] [] M (zQ Q)
  refine zr_aload_n (pc' := 1) (i := 0) dX11_alertsChanged_0 rfl rfl rfl ?_
  refine zr_aload_n (pc' := 2) (i := 0) dX11_alertsChanged_1 rfl rfl rfl ?_
  refine zr_get (pc' := 5) dX11_alertsChanged_2 rfl ps_0 kd_0 fl_X11_368 kc_11 (gv_0_6 _) ?_
  refine zr_iload_n (pc' := 6) (i := 1) dX11_alertsChanged_5 rfl rfl rfl ?_
  refine zr_min (pc' := 9) dX11_alertsChanged_6 rfl ml_X11_311.1 ml_X11_311.2.1 ml_X11_311.2.2.1 ml_X11_311.2.2.2 (by decide) (Nat.le_of_ble_eq_true rfl) (Nat.zero_le _) (Nat.zero_le _) h.1.1 h.1.2 ?_
  have h := h.2
  refine zr_put (pc' := 12) dX11_alertsChanged_9 rfl ps_0 kd_0 fl_X11_368 kc_11 rfl nf_0_6 rfl trivial (fun M1 hM1 => ?_)
  have h := h M1 hM1
  refine zr_aload_n (pc' := 13) (i := 0) dX11_alertsChanged_12 rfl rfl rfl ?_
  refine zn_callV (pc' := 16) (args := []) (st := []) (st' := fun _ => []) dX11_alertsChanged_13 rfl cv_X11_231 ⟨rfl, rfl, by decide, by decide⟩ rfl ps_0 kd_0 rfl rfl (Nat.le_of_ble_eq_true rfl) (fun _ => rfl) h ?_
  intro r2 M3 h
  exact zr_return (x := 0) dX11_alertsChanged_16 rfl (Nat.le_refl _) (Nat.le_refl _) (And.intro rfl h)
set_option maxRecDepth 20000 in
theorem vcX11_lavaChanged {E : zE} {M : zM} {Q : Int → zM → Prop} (I2 : Nat → Int → zM → Prop)
    (h : ∃ n', I2 n' 0 M)
    (h2 : ∀ (n : Nat) (l1 : Int) (M : zM), I2 n l1 M → ((zR l1) ∧ ((3 ≤ l1 → (zP E mX11_escapeChanged [.inr (.inr 0)] M (fun r1 M2 => Q 0 M2))) ∧ (l1 < 3 → (0 ≤ l1 ∧ l1 < 3) ∧ zIs_0 (M 34 l1.toNat) ∧ (∀ M4, M4 = zup M ((M 34 l1.toNat).toNat) 4 0 → ∃ n', n' < n ∧ I2 n' (l1 + 1) M4)))))
    : zP E mX11_lavaChanged [.inr (.inr 0)] M Q := by
  have key : ∀ n : Nat, (∀ (l1 : Int) (M : zM), I2 n l1 M → zA E zNN (0, 0) mX11_lavaChanged 2 [(0, .inr (.inr 0)), (1, .inl l1)] [] M (zQ Q)) := by
    intro n
    induction n using Nat.strongRecOn with
    | ind n ih =>
      intro l1 M h
      have h := h2 n l1 M h
      refine zr_iload_n (pc' := 3) (i := 1) dX11_lavaChanged_2 rfl rfl rfl ?_
      refine zr_iconst (pc' := 4) dX11_lavaChanged_3 rfl ?_
      refine zr_icmp_ge (tgt := 23) (pc' := 7) dX11_lavaChanged_4 rfl rfl h.1 (zRd rfl) (fun hc => ?_) (fun hc => ?_)
      · have h := h.2.1 hc
        refine zr_aload_n (pc' := 24) (i := 0) dX11_lavaChanged_23 rfl rfl rfl ?_
        refine zn_callV (pc' := 27) (args := []) (st := []) (st' := fun _ => []) dX11_lavaChanged_24 rfl cv_X11_231 ⟨rfl, rfl, by decide, by decide⟩ rfl ps_0 kd_0 rfl rfl (Nat.le_of_ble_eq_true rfl) (fun _ => rfl) h ?_
        intro r1 M2 h
        exact zr_return (x := 0) dX11_lavaChanged_27 rfl (Nat.le_refl _) (Nat.le_refl _) (And.intro rfl h)
      · have h := h.2.2 hc
        refine zr_aload_n (pc' := 8) (i := 0) dX11_lavaChanged_7 rfl rfl rfl ?_
        refine zr_get (pc' := 11) dX11_lavaChanged_8 rfl ps_0 kd_0 fl_X11_52 kc_11 (gv_0_10 _) ?_
        refine zr_iload_n (pc' := 12) (i := 1) dX11_lavaChanged_11 rfl rfl rfl ?_
        refine zr_aald (pc' := 13) (t0 := 3) dX11_lavaChanged_12 rfl ps_34 kd_34 (by decide) (fun _ => rfl) (by decide) h.1.1 h.1.2 ?_
        have h := h.2
        refine zr_iconst (pc' := 14) dX11_lavaChanged_13 rfl ?_
        have hi3 := h.1
        have h := h.2
        refine zr_put (pc' := 17) dX11_lavaChanged_14 rfl (is_0_pos hi3) (is_0_kd hi3) fl_X11_384 kc_0 rfl (is_0_nf_4 hi3) rfl (Or.inl rfl) (fun M4 hM1 => ?_)
        have h := h M4 hM1
        refine zr_iinc (pc' := 20) (al' := [(1, .inl (l1 + 1)), (0, .inr (.inr 0))]) dX11_lavaChanged_17 rfl rfl (by decide) rfl ?_
        refine zr_goto (pc' := 2) dX11_lavaChanged_20 rfl ?_
        obtain ⟨n', hn, h⟩ := h
        exact zn_al ((ih n' hn) _ _ h) ⟨rfl, rfl, trivial⟩
  refine zP_of (by decide +kernel) rfl (Nat.le_of_ble_eq_true rfl) ?_
  show zA E zNN (0, 0) mX11_lavaChanged 0 [(0, .inr (.inr 0))] [] M (zQ Q)
  refine zr_iconst (pc' := 1) dX11_lavaChanged_0 rfl ?_
  refine zr_istore_n (pc' := 2) (i := 1) (al' := [(1, .inl 0), (0, .inr (.inr 0))]) dX11_lavaChanged_1 rfl rfl (by decide) rfl ?_
  obtain ⟨n', h⟩ := h
  exact zn_al ((key n') _ _ h) ⟨rfl, rfl, trivial⟩
set_option maxRecDepth 20000 in
theorem vcX11_escapeChanged {E : zE} {M : zM} {Q : Int → zM → Prop} (I7 : Nat → Int → zM → Prop)
    (h : (∀ M1, M1 = zup M 0 7 0 → ∃ n', I7 n' 0 M1))
    (h7 : ∀ (n : Nat) (l1 : Int) (M : zM), I7 n l1 M → ((zR l1) ∧ ((3 ≤ l1 → (zP E mX11_forgetPlans [.inr (.inr 0)] M (fun r2 M3 => Q 0 M3))) ∧ (l1 < 3 → (0 ≤ l1 ∧ l1 < 3) ∧ zIs_0 (M 34 l1.toNat) ∧ (∀ M5, M5 = zup M ((M 34 l1.toNat).toNat) 10 0 → ∃ n', n' < n ∧ I7 n' (l1 + 1) M5)))))
    : zP E mX11_escapeChanged [.inr (.inr 0)] M Q := by
  have key : ∀ n : Nat, (∀ (l1 : Int) (M : zM), I7 n l1 M → zA E zNN (0, 0) mX11_escapeChanged 7 [(0, .inr (.inr 0)), (1, .inl l1)] [] M (zQ Q)) := by
    intro n
    induction n using Nat.strongRecOn with
    | ind n ih =>
      intro l1 M h
      have h := h7 n l1 M h
      refine zr_iload_n (pc' := 8) (i := 1) dX11_escapeChanged_7 rfl rfl rfl ?_
      refine zr_iconst (pc' := 9) dX11_escapeChanged_8 rfl ?_
      refine zr_icmp_ge (tgt := 28) (pc' := 12) dX11_escapeChanged_9 rfl rfl h.1 (zRd rfl) (fun hc => ?_) (fun hc => ?_)
      · have h := h.2.1 hc
        refine zr_aload_n (pc' := 29) (i := 0) dX11_escapeChanged_28 rfl rfl rfl ?_
        refine zn_callV (pc' := 32) (args := []) (st := []) (st' := fun _ => []) dX11_escapeChanged_29 rfl cv_X11_289 ⟨rfl, rfl, by decide, by decide⟩ rfl ps_0 kd_0 rfl rfl (Nat.le_of_ble_eq_true rfl) (fun _ => rfl) h ?_
        intro r2 M3 h
        exact zr_return (x := 0) dX11_escapeChanged_32 rfl (Nat.le_refl _) (Nat.le_refl _) (And.intro rfl h)
      · have h := h.2.2 hc
        refine zr_aload_n (pc' := 13) (i := 0) dX11_escapeChanged_12 rfl rfl rfl ?_
        refine zr_get (pc' := 16) dX11_escapeChanged_13 rfl ps_0 kd_0 fl_X11_52 kc_11 (gv_0_10 _) ?_
        refine zr_iload_n (pc' := 17) (i := 1) dX11_escapeChanged_16 rfl rfl rfl ?_
        refine zr_aald (pc' := 18) (t0 := 3) dX11_escapeChanged_17 rfl ps_34 kd_34 (by decide) (fun _ => rfl) (by decide) h.1.1 h.1.2 ?_
        have h := h.2
        refine zr_iconst (pc' := 19) dX11_escapeChanged_18 rfl ?_
        have hi4 := h.1
        have h := h.2
        refine zr_put (pc' := 22) dX11_escapeChanged_19 rfl (is_0_pos hi4) (is_0_kd hi4) fl_X11_387 kc_0 rfl (is_0_nf_10 hi4) rfl (Or.inl rfl) (fun M5 hM1 => ?_)
        have h := h M5 hM1
        refine zr_iinc (pc' := 25) (al' := [(1, .inl (l1 + 1)), (0, .inr (.inr 0))]) dX11_escapeChanged_22 rfl rfl (by decide) rfl ?_
        refine zr_goto (pc' := 7) dX11_escapeChanged_25 rfl ?_
        obtain ⟨n', hn, h⟩ := h
        exact zn_al ((ih n' hn) _ _ h) ⟨rfl, rfl, trivial⟩
  refine zP_of (by decide +kernel) rfl (Nat.le_of_ble_eq_true rfl) ?_
  show zA E zNN (0, 0) mX11_escapeChanged 0 [(0, .inr (.inr 0))] [] M (zQ Q)
  refine zr_aload_n (pc' := 1) (i := 0) dX11_escapeChanged_0 rfl rfl rfl ?_
  refine zr_iconst (pc' := 2) dX11_escapeChanged_1 rfl ?_
  refine zr_put (pc' := 5) dX11_escapeChanged_2 rfl ps_0 kd_0 fl_X11_371 kc_11 rfl nf_0_7 rfl (Or.inl rfl) (fun M1 hM1 => ?_)
  have h := h M1 hM1
  refine zr_iconst (pc' := 6) dX11_escapeChanged_5 rfl ?_
  refine zr_istore_n (pc' := 7) (i := 1) (al' := [(1, .inl 0), (0, .inr (.inr 0))]) dX11_escapeChanged_6 rfl rfl (by decide) rfl ?_
  obtain ⟨n', h⟩ := h
  exact zn_al ((key n') _ _ h) ⟨rfl, rfl, trivial⟩
set_option maxRecDepth 20000 in
theorem vcX11_forgetPlans {E : zE} {M : zM} {Q : Int → zM → Prop} (I2 : Nat → Int → zM → Prop)
    (h : ∃ n', I2 n' 0 M)
    (h2 : ∀ (n : Nat) (l1 : Int) (M : zM), I2 n l1 M → ((zR l1) ∧ ((2 < l1 → Q 0 M) ∧ (l1 ≤ 2 → (0 ≤ l1 ∧ l1 < 3) ∧ zIs_4 (M 66 l1.toNat) ∧ (∀ M2, M2 = zup M ((M 66 l1.toNat).toNat) 0 0 → ∃ n', n' < n ∧ I2 n' (l1 + 1) M2)))))
    : zP E mX11_forgetPlans [.inr (.inr 0)] M Q := by
  have key : ∀ n : Nat, (∀ (l1 : Int) (M : zM), I2 n l1 M → zA E zNN (0, 0) mX11_forgetPlans 2 [(0, .inr (.inr 0)), (1, .inl l1)] [] M (zQ Q)) := by
    intro n
    induction n using Nat.strongRecOn with
    | ind n ih =>
      intro l1 M h
      have h := h2 n l1 M h
      refine zr_iload_n (pc' := 3) (i := 1) dX11_forgetPlans_2 rfl rfl rfl ?_
      refine zr_iconst (pc' := 4) dX11_forgetPlans_3 rfl ?_
      refine zr_icmp_gt (tgt := 23) (pc' := 7) dX11_forgetPlans_4 rfl rfl h.1 (zRd rfl) (fun hc => ?_) (fun hc => ?_)
      · have h := h.2.1 hc
        exact zr_return (x := 0) dX11_forgetPlans_23 rfl (Nat.le_refl _) (Nat.le_refl _) (And.intro rfl h)
      · have h := h.2.2 hc
        refine zr_aload_n (pc' := 8) (i := 0) dX11_forgetPlans_7 rfl rfl rfl ?_
        refine zr_get (pc' := 11) dX11_forgetPlans_8 rfl ps_0 kd_0 fl_X11_77 kc_11 (gv_0_15 _) ?_
        refine zr_iload_n (pc' := 12) (i := 1) dX11_forgetPlans_11 rfl rfl rfl ?_
        refine zr_aald (pc' := 13) (t0 := 4) dX11_forgetPlans_12 rfl ps_66 kd_66 (by decide) (fun _ => rfl) (by decide) h.1.1 h.1.2 ?_
        have h := h.2
        refine zr_iconst (pc' := 14) dX11_forgetPlans_13 rfl ?_
        have hi1 := h.1
        have h := h.2
        refine zr_put (pc' := 17) dX11_forgetPlans_14 rfl (is_4_pos hi1) (is_4_kd hi1) fl_X11_292 kc_4 rfl (is_4_nf_0 hi1) rfl (Or.inl rfl) (fun M2 hM1 => ?_)
        have h := h M2 hM1
        refine zr_iinc (pc' := 20) (al' := [(1, .inl (l1 + 1)), (0, .inr (.inr 0))]) dX11_forgetPlans_17 rfl rfl (by decide) rfl ?_
        refine zr_goto (pc' := 2) dX11_forgetPlans_20 rfl ?_
        obtain ⟨n', hn, h⟩ := h
        exact zn_al ((ih n' hn) _ _ h) ⟨rfl, rfl, trivial⟩
  refine zP_of (by decide +kernel) rfl (Nat.le_of_ble_eq_true rfl) ?_
  show zA E zNN (0, 0) mX11_forgetPlans 0 [(0, .inr (.inr 0))] [] M (zQ Q)
  refine zr_iconst (pc' := 1) dX11_forgetPlans_0 rfl ?_
  refine zr_istore_n (pc' := 2) (i := 1) (al' := [(1, .inl 0), (0, .inr (.inr 0))]) dX11_forgetPlans_1 rfl rfl (by decide) rfl ?_
  obtain ⟨n', h⟩ := h
  exact zn_al ((key n') _ _ h) ⟨rfl, rfl, trivial⟩
set_option maxRecDepth 20000 in
theorem vcX11_steppedForecast {E : zE} {M : zM} {Q : Int → zM → Prop} (l1 : Int)
    (h : (0 ≤ l1 ∧ l1 < 3) ∧ zIs_0 (M 34 l1.toNat) ∧ ((zR (M ((M 34 l1.toNat).toNat) 4)) ∧ ((¬ (M ((M 34 l1.toNat).toNat) 4) = 0 → Q (M 34 l1.toNat) M) ∧ ((M ((M 34 l1.toNat).toNat) 4) = 0 → (0 ≤ l1 ∧ l1 < 3) ∧ (zP E mX0_stepLava [.inr (.inr (M 34 l1.toNat)), .inr (.inr 28), .inr (.inr (M 33 l1.toNat))] M (fun r2 M3 => Q (M 34 l1.toNat) M3))))))
    : zP E mX11_steppedForecast [.inr (.inr 0), .inl l1] M Q := by
  refine zP_of (by decide +kernel) rfl (Nat.le_of_ble_eq_true rfl) ?_
  show zA E zNN (0, 0) mX11_steppedForecast 0 [(0, .inr (.inr 0)), (1, .inl l1)] [] M (zQ Q)
  refine zr_aload_n (pc' := 1) (i := 0) dX11_steppedForecast_0 rfl rfl rfl ?_
  refine zr_get (pc' := 4) dX11_steppedForecast_1 rfl ps_0 kd_0 fl_X11_52 kc_11 (gv_0_10 _) ?_
  refine zr_iload_n (pc' := 5) (i := 1) dX11_steppedForecast_4 rfl rfl rfl ?_
  refine zr_aald (pc' := 6) (t0 := 3) dX11_steppedForecast_5 rfl ps_34 kd_34 (by decide) (fun _ => rfl) (by decide) h.1.1 h.1.2 ?_
  have h := h.2
  refine zr_astore_n (pc' := 7) (i := 2) (al' := [(2, .inr (.inr (M 34 l1.toNat))), (0, .inr (.inr 0)), (1, .inl l1)]) dX11_steppedForecast_6 rfl rfl (by decide) rfl ?_
  refine zr_aload_n (pc' := 8) (i := 2) dX11_steppedForecast_7 rfl rfl rfl ?_
  have hi1 := h.1
  have h := h.2
  refine zr_get (pc' := 11) dX11_steppedForecast_8 rfl (is_0_pos hi1) (is_0_kd hi1) fl_X11_384 kc_0 (is_0_gv_4 hi1 _) ?_
  refine zr_if_ne (tgt := 28) (pc' := 14) dX11_steppedForecast_11 rfl rfl h.1 (fun hc => ?_) (fun hc => ?_)
  · have h := h.2.1 hc
    refine zr_aload_n (pc' := 29) (i := 2) dX11_steppedForecast_28 rfl rfl rfl ?_
    exact zr_areturn dX11_steppedForecast_29 rfl (Or.inl ⟨_, rfl⟩) (Nat.le_refl _) (Nat.le_refl _) (And.intro rfl h)
  · have h := h.2.2 hc
    refine zr_aload_n (pc' := 15) (i := 2) dX11_steppedForecast_14 rfl rfl rfl ?_
    refine zr_aload_n (pc' := 16) (i := 0) dX11_steppedForecast_15 rfl rfl rfl ?_
    refine zr_get (pc' := 19) dX11_steppedForecast_16 rfl ps_0 kd_0 fl_X11_40 kc_11 (gv_0_8 _) ?_
    refine zr_aload_n (pc' := 20) (i := 0) dX11_steppedForecast_19 rfl rfl rfl ?_
    refine zr_get (pc' := 23) dX11_steppedForecast_20 rfl ps_0 kd_0 fl_X11_46 kc_11 (gv_0_9 _) ?_
    refine zr_iload_n (pc' := 24) (i := 1) dX11_steppedForecast_23 rfl rfl rfl ?_
    refine zr_aald (pc' := 25) (t0 := 5) dX11_steppedForecast_24 rfl ps_33 kd_33 (by decide) (fun _ => rfl) (by decide) h.1.1 h.1.2 ?_
    have h := h.2
    refine zn_callV (pc' := 28) (args := [.inr (.inr 28), .inr (.inr (M 33 l1.toNat))]) (st := []) (st' := fun _ => []) dX11_steppedForecast_25 rfl cv_X11_390 ⟨rfl, rfl, by decide, by decide⟩ rfl (is_0_pos hi1) (is_0_kd hi1) rfl rfl (Nat.le_of_ble_eq_true rfl) (fun _ => rfl) h ?_
    intro r2 M3 h
    refine zr_aload_n (pc' := 29) (i := 2) dX11_steppedForecast_28 rfl rfl rfl ?_
    exact zr_areturn dX11_steppedForecast_29 rfl (Or.inl ⟨_, rfl⟩) (Nat.le_refl _) (Nat.le_refl _) (And.intro rfl h)
set_option maxRecDepth 20000 in
theorem vcX11_ledForecast {E : zE} {M : zM} {Q : Int → zM → Prop} (l1 : Int)
    (h : (zP E mX11_steppedForecast [.inr (.inr 0), .inl l1] M (fun r1 M2 => zIs_0 r1 ∧ ((zR (M2 r1.toNat 10)) ∧ ((¬ (M2 r1.toNat 10) = 0 → Q r1 M2) ∧ ((M2 r1.toNat 10) = 0 → (0 ≤ l1 ∧ l1 < 3) ∧ (zP E mX0_leadOut [.inr (.inr r1), .inr (.inr (M2 33 l1.toNat)), .inr (.inr 44), .inr (.inr 57)] M2 (fun r4 M5 => Q r1 M5))))))))
    : zP E mX11_ledForecast [.inr (.inr 0), .inl l1] M Q := by
  refine zP_of (by decide +kernel) rfl (Nat.le_of_ble_eq_true rfl) ?_
  show zA E zNN (0, 0) mX11_ledForecast 0 [(0, .inr (.inr 0)), (1, .inl l1)] [] M (zQ Q)
  refine zr_aload_n (pc' := 1) (i := 0) dX11_ledForecast_0 rfl rfl rfl ?_
  refine zr_iload_n (pc' := 2) (i := 1) dX11_ledForecast_1 rfl rfl rfl ?_
  refine zn_callV (pc' := 5) (args := [.inl l1]) (st := []) (st' := fun r1 => [.inr (.inr r1)]) dX11_ledForecast_2 rfl cv_X11_218 ⟨rfl, rfl, by decide, by decide⟩ rfl ps_0 kd_0 rfl rfl (Nat.le_of_ble_eq_true rfl) (fun _ => rfl) h ?_
  intro r1 M2 h
  refine zr_astore_n (pc' := 6) (i := 2) (al' := [(2, .inr (.inr r1)), (0, .inr (.inr 0)), (1, .inl l1)]) dX11_ledForecast_5 rfl rfl (by decide) rfl ?_
  refine zr_aload_n (pc' := 7) (i := 2) dX11_ledForecast_6 rfl rfl rfl ?_
  have hi3 := h.1
  have h := h.2
  refine zr_get (pc' := 10) dX11_ledForecast_7 rfl (is_0_pos hi3) (is_0_kd hi3) fl_X11_387 kc_0 (is_0_gv_10 hi3 _) ?_
  refine zr_if_ne (tgt := 31) (pc' := 13) dX11_ledForecast_10 rfl rfl h.1 (fun hc => ?_) (fun hc => ?_)
  · have h := h.2.1 hc
    refine zr_aload_n (pc' := 32) (i := 2) dX11_ledForecast_31 rfl rfl rfl ?_
    exact zr_areturn dX11_ledForecast_32 rfl (Or.inl ⟨_, rfl⟩) (Nat.le_refl _) (Nat.le_refl _) (And.intro rfl h)
  · have h := h.2.2 hc
    refine zr_aload_n (pc' := 14) (i := 2) dX11_ledForecast_13 rfl rfl rfl ?_
    refine zr_aload_n (pc' := 15) (i := 0) dX11_ledForecast_14 rfl rfl rfl ?_
    refine zr_get (pc' := 18) dX11_ledForecast_15 rfl ps_0 kd_0 fl_X11_46 kc_11 (gv_0_9 _) ?_
    refine zr_iload_n (pc' := 19) (i := 1) dX11_ledForecast_18 rfl rfl rfl ?_
    refine zr_aald (pc' := 20) (t0 := 5) dX11_ledForecast_19 rfl ps_33 kd_33 (by decide) (fun _ => rfl) (by decide) h.1.1 h.1.2 ?_
    have h := h.2
    refine zr_aload_n (pc' := 21) (i := 0) dX11_ledForecast_20 rfl rfl rfl ?_
    refine zr_get (pc' := 24) dX11_ledForecast_21 rfl ps_0 kd_0 fl_X11_64 kc_11 (gv_0_13 _) ?_
    refine zr_aload_n (pc' := 25) (i := 0) dX11_ledForecast_24 rfl rfl rfl ?_
    refine zr_get (pc' := 28) dX11_ledForecast_25 rfl ps_0 kd_0 fl_X11_71 kc_11 (gv_0_14 _) ?_
    refine zn_callV (pc' := 31) (args := [.inr (.inr (M2 33 l1.toNat)), .inr (.inr 44), .inr (.inr 57)]) (st := []) (st' := fun _ => []) dX11_ledForecast_28 rfl cv_X11_394 ⟨rfl, rfl, by decide, by decide⟩ rfl (is_0_pos hi3) (is_0_kd hi3) rfl rfl (Nat.le_of_ble_eq_true rfl) (fun _ => rfl) h ?_
    intro r4 M5 h
    refine zr_aload_n (pc' := 32) (i := 2) dX11_ledForecast_31 rfl rfl rfl ?_
    exact zr_areturn dX11_ledForecast_32 rfl (Or.inl ⟨_, rfl⟩) (Nat.le_refl _) (Nat.le_refl _) (And.intro rfl h)
set_option maxRecDepth 20000 in
theorem vcX11_lostCost {E : zE} {M : zM} {Q : Int → zM → Prop} (I12 : Nat → Int → Int → Int → zM → Prop)
    (h : (zP E mX3_allPeople [.inr (.inr 44)] M (fun r1 M2 => ∃ n', I12 n' r1 0 0 M2)))
    (h12 : ∀ (n : Nat) (l1 l2 l3 : Int) (M : zM), I12 n l1 l2 l3 M → ((zR l3 ∧ zR (M 0 11)) ∧ (((M 0 11) ≤ l3 → Q l2 M) ∧ (l3 < (M 0 11) → (0 ≤ l3 ∧ l3 < 3) ∧ zIs_10 (M 33 l3.toNat) ∧ (zP E mX11_ledForecast [.inr (.inr 0), .inl l3] M (fun r4 M5 => zIs_0 r4 ∧ ∃ n', n' < n ∧ I12 n' l1 (l2 + ((M ((M 33 l3.toNat).toNat) 4) * (l1 - (M5 r4.toNat 8)))) (l3 + 1) M5))))))
    : zP E mX11_lostCost [.inr (.inr 0)] M Q := by
  have key : ∀ n : Nat, (∀ (l1 l2 l3 : Int) (M : zM), I12 n l1 l2 l3 M → zA E zNN (0, 0) mX11_lostCost 12 [(0, .inr (.inr 0)), (1, .inl l1), (2, .inl l2), (3, .inl l3)] [] M (zQ Q)) := by
    intro n
    induction n using Nat.strongRecOn with
    | ind n ih =>
      intro l1 l2 l3 M h
      have h := h12 n l1 l2 l3 M h
      refine zr_iload_n (pc' := 13) (i := 3) dX11_lostCost_12 rfl rfl rfl ?_
      refine zr_aload_n (pc' := 14) (i := 0) dX11_lostCost_13 rfl rfl rfl ?_
      refine zr_get (pc' := 17) dX11_lostCost_14 rfl ps_0 kd_0 fl_X11_174 kc_11 (gv_0_11 _) ?_
      refine zr_icmp_ge (tgt := 49) (pc' := 20) dX11_lostCost_17 rfl rfl h.1.1 h.1.2 (fun hc => ?_) (fun hc => ?_)
      · have h := h.2.1 hc
        refine zr_iload_n (pc' := 50) (i := 2) dX11_lostCost_49 rfl rfl rfl ?_
        exact zr_ireturn dX11_lostCost_50 rfl rfl trivial (Nat.le_refl _) (Nat.le_refl _) (And.intro rfl h)
      · have h := h.2.2 hc
        refine zr_iload_n (pc' := 21) (i := 2) dX11_lostCost_20 rfl rfl rfl ?_
        refine zr_aload_n (pc' := 22) (i := 0) dX11_lostCost_21 rfl rfl rfl ?_
        refine zr_get (pc' := 25) dX11_lostCost_22 rfl ps_0 kd_0 fl_X11_46 kc_11 (gv_0_9 _) ?_
        refine zr_iload_n (pc' := 26) (i := 3) dX11_lostCost_25 rfl rfl rfl ?_
        refine zr_aald (pc' := 27) (t0 := 5) dX11_lostCost_26 rfl ps_33 kd_33 (by decide) (fun _ => rfl) (by decide) h.1.1 h.1.2 ?_
        have h := h.2
        have hi3 := h.1
        have h := h.2
        refine zr_get (pc' := 30) dX11_lostCost_27 rfl (is_10_pos hi3) (is_10_kd hi3) fl_X11_212 kc_10 (is_10_gv_4 hi3 _) ?_
        refine zr_iload_n (pc' := 31) (i := 1) dX11_lostCost_30 rfl rfl rfl ?_
        refine zr_aload_n (pc' := 32) (i := 0) dX11_lostCost_31 rfl rfl rfl ?_
        refine zr_iload_n (pc' := 33) (i := 3) dX11_lostCost_32 rfl rfl rfl ?_
        refine zn_callV (pc' := 36) (args := [.inl l3]) (st := [.inl l1, .inl (M ((M 33 l3.toNat).toNat) 4), .inl l2]) (st' := fun r4 => [.inr (.inr r4), .inl l1, .inl (M ((M 33 l3.toNat).toNat) 4), .inl l2]) dX11_lostCost_33 rfl cv_X11_258 ⟨rfl, rfl, by decide, by decide⟩ rfl ps_0 kd_0 rfl rfl (Nat.le_of_ble_eq_true rfl) (fun _ => rfl) h ?_
        intro r4 M5 h
        have hi6 := h.1
        have h := h.2
        refine zr_get (pc' := 39) dX11_lostCost_36 rfl (is_0_pos hi6) (is_0_kd hi6) fl_X11_261 kc_0 (is_0_gv_8 hi6 _) ?_
        refine zr_isub (pc' := 40) dX11_lostCost_39 rfl ?_
        refine zr_imul (pc' := 41) dX11_lostCost_40 rfl ?_
        refine zr_iadd (pc' := 42) dX11_lostCost_41 rfl ?_
        refine zr_istore_n (pc' := 43) (i := 2) (al' := [(2, .inl (l2 + ((M ((M 33 l3.toNat).toNat) 4) * (l1 - (M5 r4.toNat 8))))), (0, .inr (.inr 0)), (1, .inl l1), (3, .inl l3)]) dX11_lostCost_42 rfl rfl (by decide) rfl ?_
        refine zr_iinc (pc' := 46) (al' := [(3, .inl (l3 + 1)), (2, .inl (l2 + ((M ((M 33 l3.toNat).toNat) 4) * (l1 - (M5 r4.toNat 8))))), (0, .inr (.inr 0)), (1, .inl l1)]) dX11_lostCost_43 rfl rfl (by decide) rfl ?_
        refine zr_goto (pc' := 12) dX11_lostCost_46 rfl ?_
        obtain ⟨n', hn, h⟩ := h
        exact zn_al ((ih n' hn) _ _ _ _ h) ⟨rfl, rfl, rfl, rfl, trivial⟩
  refine zP_of (by decide +kernel) rfl (Nat.le_of_ble_eq_true rfl) ?_
  show zA E zNN (0, 0) mX11_lostCost 0 [(0, .inr (.inr 0))] [] M (zQ Q)
  refine zr_aload_n (pc' := 1) (i := 0) dX11_lostCost_0 rfl rfl rfl ?_
  refine zr_get (pc' := 4) dX11_lostCost_1 rfl ps_0 kd_0 fl_X11_64 kc_11 (gv_0_13 _) ?_
  refine zn_callV (pc' := 7) (args := []) (st := []) (st' := fun r1 => [.inl r1]) dX11_lostCost_4 rfl cv_X11_264 ⟨rfl, rfl, by decide, by decide⟩ rfl ps_44 kd_44 rfl rfl (Nat.le_of_ble_eq_true rfl) (fun _ => rfl) h ?_
  intro r1 M2 h
  refine zr_istore_n (pc' := 8) (i := 1) (al' := [(1, .inl r1), (0, .inr (.inr 0))]) dX11_lostCost_7 rfl rfl (by decide) rfl ?_
  refine zr_iconst (pc' := 9) dX11_lostCost_8 rfl ?_
  refine zr_istore_n (pc' := 10) (i := 2) (al' := [(2, .inl 0), (1, .inl r1), (0, .inr (.inr 0))]) dX11_lostCost_9 rfl rfl (by decide) rfl ?_
  refine zr_iconst (pc' := 11) dX11_lostCost_10 rfl ?_
  refine zr_istore_n (pc' := 12) (i := 3) (al' := [(3, .inl 0), (2, .inl 0), (1, .inl r1), (0, .inr (.inr 0))]) dX11_lostCost_11 rfl rfl (by decide) rfl ?_
  obtain ⟨n', h⟩ := h
  exact zn_al ((key n') _ _ _ _ h) ⟨rfl, rfl, rfl, rfl, trivial⟩
set_option maxRecDepth 20000 in
theorem vcX11_buriedCost {E : zE} {M : zM} {Q : Int → zM → Prop} (I4 : Nat → Int → Int → zM → Prop)
    (h : ∃ n', I4 n' 0 0 M)
    (h4 : ∀ (n : Nat) (l1 l2 : Int) (M : zM), I4 n l1 l2 M → ((zR l2 ∧ zR (M 0 11)) ∧ (((M 0 11) ≤ l2 → Q l1 M) ∧ (l2 < (M 0 11) → (0 ≤ l2 ∧ l2 < 3) ∧ zIs_10 (M 33 l2.toNat) ∧ (zP E mX11_steppedForecast [.inr (.inr 0), .inl l2] M (fun r2 M3 => zIs_0 r2 ∧ ∃ n', n' < n ∧ I4 n' (l1 + ((M ((M 33 l2.toNat).toNat) 4) * (M3 r2.toNat 3))) (l2 + 1) M3))))))
    : zP E mX11_buriedCost [.inr (.inr 0)] M Q := by
  have key : ∀ n : Nat, (∀ (l1 l2 : Int) (M : zM), I4 n l1 l2 M → zA E zNN (0, 0) mX11_buriedCost 4 [(0, .inr (.inr 0)), (1, .inl l1), (2, .inl l2)] [] M (zQ Q)) := by
    intro n
    induction n using Nat.strongRecOn with
    | ind n ih =>
      intro l1 l2 M h
      have h := h4 n l1 l2 M h
      refine zr_iload_n (pc' := 5) (i := 2) dX11_buriedCost_4 rfl rfl rfl ?_
      refine zr_aload_n (pc' := 6) (i := 0) dX11_buriedCost_5 rfl rfl rfl ?_
      refine zr_get (pc' := 9) dX11_buriedCost_6 rfl ps_0 kd_0 fl_X11_174 kc_11 (gv_0_11 _) ?_
      refine zr_icmp_ge (tgt := 39) (pc' := 12) dX11_buriedCost_9 rfl rfl h.1.1 h.1.2 (fun hc => ?_) (fun hc => ?_)
      · have h := h.2.1 hc
        refine zr_iload_n (pc' := 40) (i := 1) dX11_buriedCost_39 rfl rfl rfl ?_
        exact zr_ireturn dX11_buriedCost_40 rfl rfl trivial (Nat.le_refl _) (Nat.le_refl _) (And.intro rfl h)
      · have h := h.2.2 hc
        refine zr_iload_n (pc' := 13) (i := 1) dX11_buriedCost_12 rfl rfl rfl ?_
        refine zr_aload_n (pc' := 14) (i := 0) dX11_buriedCost_13 rfl rfl rfl ?_
        refine zr_get (pc' := 17) dX11_buriedCost_14 rfl ps_0 kd_0 fl_X11_46 kc_11 (gv_0_9 _) ?_
        refine zr_iload_n (pc' := 18) (i := 2) dX11_buriedCost_17 rfl rfl rfl ?_
        refine zr_aald (pc' := 19) (t0 := 5) dX11_buriedCost_18 rfl ps_33 kd_33 (by decide) (fun _ => rfl) (by decide) h.1.1 h.1.2 ?_
        have h := h.2
        have hi1 := h.1
        have h := h.2
        refine zr_get (pc' := 22) dX11_buriedCost_19 rfl (is_10_pos hi1) (is_10_kd hi1) fl_X11_212 kc_10 (is_10_gv_4 hi1 _) ?_
        refine zr_aload_n (pc' := 23) (i := 0) dX11_buriedCost_22 rfl rfl rfl ?_
        refine zr_iload_n (pc' := 24) (i := 2) dX11_buriedCost_23 rfl rfl rfl ?_
        refine zn_callV (pc' := 27) (args := [.inl l2]) (st := [.inl (M ((M 33 l2.toNat).toNat) 4), .inl l1]) (st' := fun r2 => [.inr (.inr r2), .inl (M ((M 33 l2.toNat).toNat) 4), .inl l1]) dX11_buriedCost_24 rfl cv_X11_218 ⟨rfl, rfl, by decide, by decide⟩ rfl ps_0 kd_0 rfl rfl (Nat.le_of_ble_eq_true rfl) (fun _ => rfl) h ?_
        intro r2 M3 h
        have hi4 := h.1
        have h := h.2
        refine zr_get (pc' := 30) dX11_buriedCost_27 rfl (is_0_pos hi4) (is_0_kd hi4) fl_X11_255 kc_0 (is_0_gv_3 hi4 _) ?_
        refine zr_imul (pc' := 31) dX11_buriedCost_30 rfl ?_
        refine zr_iadd (pc' := 32) dX11_buriedCost_31 rfl ?_
        refine zr_istore_n (pc' := 33) (i := 1) (al' := [(1, .inl (l1 + ((M ((M 33 l2.toNat).toNat) 4) * (M3 r2.toNat 3)))), (0, .inr (.inr 0)), (2, .inl l2)]) dX11_buriedCost_32 rfl rfl (by decide) rfl ?_
        refine zr_iinc (pc' := 36) (al' := [(2, .inl (l2 + 1)), (1, .inl (l1 + ((M ((M 33 l2.toNat).toNat) 4) * (M3 r2.toNat 3)))), (0, .inr (.inr 0))]) dX11_buriedCost_33 rfl rfl (by decide) rfl ?_
        refine zr_goto (pc' := 4) dX11_buriedCost_36 rfl ?_
        obtain ⟨n', hn, h⟩ := h
        exact zn_al ((ih n' hn) _ _ _ h) ⟨rfl, rfl, rfl, trivial⟩
  refine zP_of (by decide +kernel) rfl (Nat.le_of_ble_eq_true rfl) ?_
  show zA E zNN (0, 0) mX11_buriedCost 0 [(0, .inr (.inr 0))] [] M (zQ Q)
  refine zr_iconst (pc' := 1) dX11_buriedCost_0 rfl ?_
  refine zr_istore_n (pc' := 2) (i := 1) (al' := [(1, .inl 0), (0, .inr (.inr 0))]) dX11_buriedCost_1 rfl rfl (by decide) rfl ?_
  refine zr_iconst (pc' := 3) dX11_buriedCost_2 rfl ?_
  refine zr_istore_n (pc' := 4) (i := 2) (al' := [(2, .inl 0), (1, .inl 0), (0, .inr (.inr 0))]) dX11_buriedCost_3 rfl rfl (by decide) rfl ?_
  obtain ⟨n', h⟩ := h
  exact zn_al ((key n') _ _ _ h) ⟨rfl, rfl, rfl, trivial⟩
set_option maxRecDepth 20000 in
theorem vcX11_tryMoreWorks {E : zE} {M : zM} {Q : Int → zM → Prop} (l1 l2 : Int) (hi1 : zIs_4 l1) (I13 : Nat → Int → Int → Int → zM → Prop) (I62 : Nat → Int → Int → Int → zM → Prop) (I100 : Nat → Int → Int → Int → Int → zM → Prop)
    (h : ∃ n', I13 n' l2 (2 * (M 28 7)) 0 M)
    (h13 : ∀ (n : Nat) (l2 l3 l4 : Int) (M : zM), I13 n l2 l3 l4 M → ((zR l4 ∧ zR l3) ∧ ((l3 ≤ l4 → ∃ n', n' < n ∧ I62 n' l2 l3 0 M) ∧ (l4 < l3 → ((zR l2) ∧ ((l2 < 1 → ∃ n', n' < n ∧ I62 n' l2 l3 0 M) ∧ (1 ≤ l2 → (zP E mX1_putNumbered [.inr (.inr 28), .inl l4] M (fun r1 M2 => ((zR r1) ∧ ((r1 = 0 → ∃ n', n' < n ∧ I13 n' l2 l3 (l4 + 1) M2) ∧ (¬ r1 = 0 → (zP E mX11_weigh [.inr (.inr 0), .inr (.inr l1), .inl l4, .inl (-1)] M2 (fun r3 M4 => (zP E mX1_takeNumbered [.inr (.inr 28), .inl l4] M4 (fun r5 M6 => ∃ n', n' < n ∧ I13 n' l2 l3 (l4 + 1) M6))))))))))))))))
    (h62 : ∀ (n : Nat) (l2 l3 l4 : Int) (M : zM), I62 n l2 l3 l4 M → ((zR l4 ∧ zR l3) ∧ ((l3 ≤ l4 → (∀ M7, M7 = zup M l1.toNat 0 1 → Q 0 M7)) ∧ (l4 < l3 → ((zR l2) ∧ ((l2 < 2 → (∀ M8, M8 = zup M l1.toNat 0 1 → Q 0 M8)) ∧ (2 ≤ l2 → (zP E mX1_putNumbered [.inr (.inr 28), .inl l4] M (fun r9 M10 => ((zR r9) ∧ ((r9 = 0 → ∃ n', n' < n ∧ I62 n' l2 l3 (l4 + 1) M10) ∧ (¬ r9 = 0 → (zR l4) ∧ ∃ n', n' < n ∧ I100 n' l2 l3 l4 ((l4 - (Int.tmod l4 2)) + 2) M10))))))))))))
    (h100 : ∀ (n : Nat) (l2 l3 l4 l6 : Int) (M : zM), I100 n l2 l3 l4 l6 M → ((zR l6 ∧ zR l3) ∧ ((l3 ≤ l6 → (zP E mX1_takeNumbered [.inr (.inr 28), .inl l4] M (fun r11 M12 => ∃ n', n' < n ∧ I62 n' l2 l3 (l4 + 1) M12))) ∧ (l6 < l3 → (zP E mX1_putNumbered [.inr (.inr 28), .inl l6] M (fun r13 M14 => ((zR r13) ∧ ((r13 = 0 → ∃ n', n' < n ∧ I100 n' l2 l3 l4 (l6 + 1) M14) ∧ (¬ r13 = 0 → (zP E mX11_weigh [.inr (.inr 0), .inr (.inr l1), .inl l4, .inl l6] M14 (fun r15 M16 => (zP E mX1_takeNumbered [.inr (.inr 28), .inl l6] M16 (fun r17 M18 => ∃ n', n' < n ∧ I100 n' l2 l3 l4 (l6 + 1) M18)))))))))))))
    : zP E mX11_tryMoreWorks [.inr (.inr 0), .inr (.inr l1), .inl l2] M Q := by
  have key : ∀ n : Nat, (∀ (l2 l3 l4 : Int) (M : zM), I13 n l2 l3 l4 M → zA E zNN (0, 0) mX11_tryMoreWorks 13 [(0, .inr (.inr 0)), (1, .inr (.inr l1)), (2, .inl l2), (3, .inl l3), (4, .inl l4)] [] M (zQ Q)) ∧ (∀ (l2 l3 l4 : Int) (M : zM), I62 n l2 l3 l4 M → zA E zNN (0, 0) mX11_tryMoreWorks 62 [(0, .inr (.inr 0)), (1, .inr (.inr l1)), (2, .inl l2), (3, .inl l3), (4, .inl l4)] [] M (zQ Q)) ∧ (∀ (l2 l3 l4 l6 : Int) (M : zM), I100 n l2 l3 l4 l6 M → zA E zNN (0, 0) mX11_tryMoreWorks 100 [(0, .inr (.inr 0)), (1, .inr (.inr l1)), (2, .inl l2), (3, .inl l3), (4, .inl l4), (6, .inl l6)] [] M (zQ Q)) := by
    intro n
    induction n using Nat.strongRecOn with
    | ind n ih =>
      refine ⟨?_, ?_, ?_⟩
      · intro l2 l3 l4 M h
        have h := h13 n l2 l3 l4 M h
        refine zr_iload (pc' := 15) dX11_tryMoreWorks_13 rfl rfl ?_
        refine zr_iload_n (pc' := 16) (i := 3) dX11_tryMoreWorks_15 rfl rfl rfl ?_
        refine zr_icmp_ge (tgt := 59) (pc' := 19) dX11_tryMoreWorks_16 rfl rfl h.1.1 h.1.2 (fun hc => ?_) (fun hc => ?_)
        · have h := h.2.1 hc
          refine zr_iconst (pc' := 60) dX11_tryMoreWorks_59 rfl ?_
          refine zr_istore (pc' := 62) (al' := [(4, .inl 0), (0, .inr (.inr 0)), (1, .inr (.inr l1)), (2, .inl l2), (3, .inl l3)]) dX11_tryMoreWorks_60 rfl (by decide) rfl ?_
          obtain ⟨n', hn, h⟩ := h
          exact zn_al ((ih n' hn).2.1 _ _ _ _ h) ⟨rfl, rfl, rfl, rfl, rfl, trivial⟩
        · have h := h.2.2 hc
          refine zr_iload_n (pc' := 20) (i := 2) dX11_tryMoreWorks_19 rfl rfl rfl ?_
          refine zr_iconst (pc' := 21) dX11_tryMoreWorks_20 rfl ?_
          refine zr_icmp_lt (tgt := 59) (pc' := 24) dX11_tryMoreWorks_21 rfl rfl h.1 (zRd rfl) (fun hc => ?_) (fun hc => ?_)
          · have h := h.2.1 hc
            refine zr_iconst (pc' := 60) dX11_tryMoreWorks_59 rfl ?_
            refine zr_istore (pc' := 62) (al' := [(4, .inl 0), (0, .inr (.inr 0)), (1, .inr (.inr l1)), (2, .inl l2), (3, .inl l3)]) dX11_tryMoreWorks_60 rfl (by decide) rfl ?_
            obtain ⟨n', hn, h⟩ := h
            exact zn_al ((ih n' hn).2.1 _ _ _ _ h) ⟨rfl, rfl, rfl, rfl, rfl, trivial⟩
          · have h := h.2.2 hc
            refine zr_aload_n (pc' := 25) (i := 0) dX11_tryMoreWorks_24 rfl rfl rfl ?_
            refine zr_get (pc' := 28) dX11_tryMoreWorks_25 rfl ps_0 kd_0 fl_X11_40 kc_11 (gv_0_8 _) ?_
            refine zr_iload (pc' := 30) dX11_tryMoreWorks_28 rfl rfl ?_
            refine zn_callV (pc' := 33) (args := [.inl l4]) (st := []) (st' := fun r1 => [.inl r1]) dX11_tryMoreWorks_30 rfl cv_X11_398 ⟨rfl, rfl, by decide, by decide⟩ rfl ps_28 kd_28 rfl rfl (Nat.le_of_ble_eq_true rfl) (fun _ => rfl) h ?_
            intro r1 M2 h
            refine zr_if_eq (tgt := 53) (pc' := 36) dX11_tryMoreWorks_33 rfl rfl h.1 (fun hc => ?_) (fun hc => ?_)
            · have h := h.2.1 hc
              refine zr_iinc (pc' := 56) (al' := [(4, .inl (l4 + 1)), (0, .inr (.inr 0)), (1, .inr (.inr l1)), (2, .inl l2), (3, .inl l3)]) dX11_tryMoreWorks_53 rfl rfl (by decide) rfl ?_
              refine zr_goto (pc' := 13) dX11_tryMoreWorks_56 rfl ?_
              obtain ⟨n', hn, h⟩ := h
              exact zn_al ((ih n' hn).1 _ _ _ _ h) ⟨rfl, rfl, rfl, rfl, rfl, trivial⟩
            · have h := h.2.2 hc
              refine zr_aload_n (pc' := 37) (i := 0) dX11_tryMoreWorks_36 rfl rfl rfl ?_
              refine zr_aload_n (pc' := 38) (i := 1) dX11_tryMoreWorks_37 rfl rfl rfl ?_
              refine zr_iload (pc' := 40) dX11_tryMoreWorks_38 rfl rfl ?_
              refine zr_iconst (pc' := 41) dX11_tryMoreWorks_40 rfl ?_
              refine zn_callV (pc' := 44) (args := [.inr (.inr l1), .inl l4, .inl (-1)]) (st := []) (st' := fun _ => []) dX11_tryMoreWorks_41 rfl cv_X11_401 ⟨rfl, rfl, by decide, by decide⟩ rfl ps_0 kd_0 rfl rfl (Nat.le_of_ble_eq_true rfl) (fun _ => rfl) h ?_
              intro r3 M4 h
              refine zr_aload_n (pc' := 45) (i := 0) dX11_tryMoreWorks_44 rfl rfl rfl ?_
              refine zr_get (pc' := 48) dX11_tryMoreWorks_45 rfl ps_0 kd_0 fl_X11_40 kc_11 (gv_0_8 _) ?_
              refine zr_iload (pc' := 50) dX11_tryMoreWorks_48 rfl rfl ?_
              refine zn_callV (pc' := 53) (args := [.inl l4]) (st := []) (st' := fun _ => []) dX11_tryMoreWorks_50 rfl cv_X11_405 ⟨rfl, rfl, by decide, by decide⟩ rfl ps_28 kd_28 rfl rfl (Nat.le_of_ble_eq_true rfl) (fun _ => rfl) h ?_
              intro r5 M6 h
              refine zr_iinc (pc' := 56) (al' := [(4, .inl (l4 + 1)), (0, .inr (.inr 0)), (1, .inr (.inr l1)), (2, .inl l2), (3, .inl l3)]) dX11_tryMoreWorks_53 rfl rfl (by decide) rfl ?_
              refine zr_goto (pc' := 13) dX11_tryMoreWorks_56 rfl ?_
              obtain ⟨n', hn, h⟩ := h
              exact zn_al ((ih n' hn).1 _ _ _ _ h) ⟨rfl, rfl, rfl, rfl, rfl, trivial⟩
      · intro l2 l3 l4 M h
        have h := h62 n l2 l3 l4 M h
        refine zr_iload (pc' := 64) dX11_tryMoreWorks_62 rfl rfl ?_
        refine zr_iload_n (pc' := 65) (i := 3) dX11_tryMoreWorks_64 rfl rfl rfl ?_
        refine zr_icmp_ge (tgt := 157) (pc' := 68) dX11_tryMoreWorks_65 rfl rfl h.1.1 h.1.2 (fun hc => ?_) (fun hc => ?_)
        · have h := h.2.1 hc
          refine zr_aload_n (pc' := 158) (i := 1) dX11_tryMoreWorks_157 rfl rfl rfl ?_
          refine zr_iconst (pc' := 159) dX11_tryMoreWorks_158 rfl ?_
          refine zr_put (pc' := 162) dX11_tryMoreWorks_159 rfl (is_4_pos hi1) (is_4_kd hi1) fl_X11_292 kc_4 rfl (is_4_nf_0 hi1) rfl (Or.inr rfl) (fun M7 hM1 => ?_)
          have h := h M7 hM1
          exact zr_return (x := 0) dX11_tryMoreWorks_162 rfl (Nat.le_refl _) (Nat.le_refl _) (And.intro rfl h)
        · have h := h.2.2 hc
          refine zr_iload_n (pc' := 69) (i := 2) dX11_tryMoreWorks_68 rfl rfl rfl ?_
          refine zr_iconst (pc' := 70) dX11_tryMoreWorks_69 rfl ?_
          refine zr_icmp_lt (tgt := 157) (pc' := 73) dX11_tryMoreWorks_70 rfl rfl h.1 (zRd rfl) (fun hc => ?_) (fun hc => ?_)
          · have h := h.2.1 hc
            refine zr_aload_n (pc' := 158) (i := 1) dX11_tryMoreWorks_157 rfl rfl rfl ?_
            refine zr_iconst (pc' := 159) dX11_tryMoreWorks_158 rfl ?_
            refine zr_put (pc' := 162) dX11_tryMoreWorks_159 rfl (is_4_pos hi1) (is_4_kd hi1) fl_X11_292 kc_4 rfl (is_4_nf_0 hi1) rfl (Or.inr rfl) (fun M8 hM1 => ?_)
            have h := h M8 hM1
            exact zr_return (x := 0) dX11_tryMoreWorks_162 rfl (Nat.le_refl _) (Nat.le_refl _) (And.intro rfl h)
          · have h := h.2.2 hc
            refine zr_aload_n (pc' := 74) (i := 0) dX11_tryMoreWorks_73 rfl rfl rfl ?_
            refine zr_get (pc' := 77) dX11_tryMoreWorks_74 rfl ps_0 kd_0 fl_X11_40 kc_11 (gv_0_8 _) ?_
            refine zr_iload (pc' := 79) dX11_tryMoreWorks_77 rfl rfl ?_
            refine zn_callV (pc' := 82) (args := [.inl l4]) (st := []) (st' := fun r9 => [.inl r9]) dX11_tryMoreWorks_79 rfl cv_X11_398 ⟨rfl, rfl, by decide, by decide⟩ rfl ps_28 kd_28 rfl rfl (Nat.le_of_ble_eq_true rfl) (fun _ => rfl) h ?_
            intro r9 M10 h
            refine zr_if_eq (tgt := 151) (pc' := 85) dX11_tryMoreWorks_82 rfl rfl h.1 (fun hc => ?_) (fun hc => ?_)
            · have h := h.2.1 hc
              refine zr_iinc (pc' := 154) (al' := [(4, .inl (l4 + 1)), (0, .inr (.inr 0)), (1, .inr (.inr l1)), (2, .inl l2), (3, .inl l3)]) dX11_tryMoreWorks_151 rfl rfl (by decide) rfl ?_
              refine zr_goto (pc' := 62) dX11_tryMoreWorks_154 rfl ?_
              obtain ⟨n', hn, h⟩ := h
              exact zn_al ((ih n' hn).2.1 _ _ _ _ h) ⟨rfl, rfl, rfl, rfl, rfl, trivial⟩
            · have h := h.2.2 hc
              refine zr_iload (pc' := 87) dX11_tryMoreWorks_85 rfl rfl ?_
              refine zr_iload (pc' := 89) dX11_tryMoreWorks_87 rfl rfl ?_
              refine zr_iconst (pc' := 90) dX11_tryMoreWorks_89 rfl ?_
              refine zr_irem (pc' := 91) dX11_tryMoreWorks_90 rfl h.1 (zRd rfl) (by decide) ?_
              have h := h.2
              refine zr_isub (pc' := 92) dX11_tryMoreWorks_91 rfl ?_
              refine zr_iconst (pc' := 93) dX11_tryMoreWorks_92 rfl ?_
              refine zr_iadd (pc' := 94) dX11_tryMoreWorks_93 rfl ?_
              refine zr_istore (pc' := 96) (al' := [(5, .inl ((l4 - (Int.tmod l4 2)) + 2)), (0, .inr (.inr 0)), (1, .inr (.inr l1)), (2, .inl l2), (3, .inl l3), (4, .inl l4)]) dX11_tryMoreWorks_94 rfl (by decide) rfl ?_
              refine zr_iload (pc' := 98) dX11_tryMoreWorks_96 rfl rfl ?_
              refine zr_istore (pc' := 100) (al' := [(6, .inl ((l4 - (Int.tmod l4 2)) + 2)), (5, .inl ((l4 - (Int.tmod l4 2)) + 2)), (0, .inr (.inr 0)), (1, .inr (.inr l1)), (2, .inl l2), (3, .inl l3), (4, .inl l4)]) dX11_tryMoreWorks_98 rfl (by decide) rfl ?_
              obtain ⟨n', hn, h⟩ := h
              exact zn_al ((ih n' hn).2.2 _ _ _ _ _ h) ⟨rfl, rfl, rfl, rfl, rfl, rfl, trivial⟩
      · intro l2 l3 l4 l6 M h
        have h := h100 n l2 l3 l4 l6 M h
        refine zr_iload (pc' := 102) dX11_tryMoreWorks_100 rfl rfl ?_
        refine zr_iload_n (pc' := 103) (i := 3) dX11_tryMoreWorks_102 rfl rfl rfl ?_
        refine zr_icmp_ge (tgt := 142) (pc' := 106) dX11_tryMoreWorks_103 rfl rfl h.1.1 h.1.2 (fun hc => ?_) (fun hc => ?_)
        · have h := h.2.1 hc
          refine zr_aload_n (pc' := 143) (i := 0) dX11_tryMoreWorks_142 rfl rfl rfl ?_
          refine zr_get (pc' := 146) dX11_tryMoreWorks_143 rfl ps_0 kd_0 fl_X11_40 kc_11 (gv_0_8 _) ?_
          refine zr_iload (pc' := 148) dX11_tryMoreWorks_146 rfl rfl ?_
          refine zn_callV (pc' := 151) (args := [.inl l4]) (st := []) (st' := fun _ => []) dX11_tryMoreWorks_148 rfl cv_X11_405 ⟨rfl, rfl, by decide, by decide⟩ rfl ps_28 kd_28 rfl rfl (Nat.le_of_ble_eq_true rfl) (fun _ => rfl) h ?_
          intro r11 M12 h
          refine zr_iinc (pc' := 154) (al' := [(4, .inl (l4 + 1)), (0, .inr (.inr 0)), (1, .inr (.inr l1)), (2, .inl l2), (3, .inl l3), (6, .inl l6)]) dX11_tryMoreWorks_151 rfl rfl (by decide) rfl ?_
          refine zr_goto (pc' := 62) dX11_tryMoreWorks_154 rfl ?_
          obtain ⟨n', hn, h⟩ := h
          exact zn_al ((ih n' hn).2.1 _ _ _ _ h) ⟨rfl, rfl, rfl, rfl, rfl, trivial⟩
        · have h := h.2.2 hc
          refine zr_aload_n (pc' := 107) (i := 0) dX11_tryMoreWorks_106 rfl rfl rfl ?_
          refine zr_get (pc' := 110) dX11_tryMoreWorks_107 rfl ps_0 kd_0 fl_X11_40 kc_11 (gv_0_8 _) ?_
          refine zr_iload (pc' := 112) dX11_tryMoreWorks_110 rfl rfl ?_
          refine zn_callV (pc' := 115) (args := [.inl l6]) (st := []) (st' := fun r13 => [.inl r13]) dX11_tryMoreWorks_112 rfl cv_X11_398 ⟨rfl, rfl, by decide, by decide⟩ rfl ps_28 kd_28 rfl rfl (Nat.le_of_ble_eq_true rfl) (fun _ => rfl) h ?_
          intro r13 M14 h
          refine zr_if_eq (tgt := 136) (pc' := 118) dX11_tryMoreWorks_115 rfl rfl h.1 (fun hc => ?_) (fun hc => ?_)
          · have h := h.2.1 hc
            refine zr_iinc (pc' := 139) (al' := [(6, .inl (l6 + 1)), (0, .inr (.inr 0)), (1, .inr (.inr l1)), (2, .inl l2), (3, .inl l3), (4, .inl l4)]) dX11_tryMoreWorks_136 rfl rfl (by decide) rfl ?_
            refine zr_goto (pc' := 100) dX11_tryMoreWorks_139 rfl ?_
            obtain ⟨n', hn, h⟩ := h
            exact zn_al ((ih n' hn).2.2 _ _ _ _ _ h) ⟨rfl, rfl, rfl, rfl, rfl, rfl, trivial⟩
          · have h := h.2.2 hc
            refine zr_aload_n (pc' := 119) (i := 0) dX11_tryMoreWorks_118 rfl rfl rfl ?_
            refine zr_aload_n (pc' := 120) (i := 1) dX11_tryMoreWorks_119 rfl rfl rfl ?_
            refine zr_iload (pc' := 122) dX11_tryMoreWorks_120 rfl rfl ?_
            refine zr_iload (pc' := 124) dX11_tryMoreWorks_122 rfl rfl ?_
            refine zn_callV (pc' := 127) (args := [.inr (.inr l1), .inl l4, .inl l6]) (st := []) (st' := fun _ => []) dX11_tryMoreWorks_124 rfl cv_X11_401 ⟨rfl, rfl, by decide, by decide⟩ rfl ps_0 kd_0 rfl rfl (Nat.le_of_ble_eq_true rfl) (fun _ => rfl) h ?_
            intro r15 M16 h
            refine zr_aload_n (pc' := 128) (i := 0) dX11_tryMoreWorks_127 rfl rfl rfl ?_
            refine zr_get (pc' := 131) dX11_tryMoreWorks_128 rfl ps_0 kd_0 fl_X11_40 kc_11 (gv_0_8 _) ?_
            refine zr_iload (pc' := 133) dX11_tryMoreWorks_131 rfl rfl ?_
            refine zn_callV (pc' := 136) (args := [.inl l6]) (st := []) (st' := fun _ => []) dX11_tryMoreWorks_133 rfl cv_X11_405 ⟨rfl, rfl, by decide, by decide⟩ rfl ps_28 kd_28 rfl rfl (Nat.le_of_ble_eq_true rfl) (fun _ => rfl) h ?_
            intro r17 M18 h
            refine zr_iinc (pc' := 139) (al' := [(6, .inl (l6 + 1)), (0, .inr (.inr 0)), (1, .inr (.inr l1)), (2, .inl l2), (3, .inl l3), (4, .inl l4)]) dX11_tryMoreWorks_136 rfl rfl (by decide) rfl ?_
            refine zr_goto (pc' := 100) dX11_tryMoreWorks_139 rfl ?_
            obtain ⟨n', hn, h⟩ := h
            exact zn_al ((ih n' hn).2.2 _ _ _ _ _ h) ⟨rfl, rfl, rfl, rfl, rfl, rfl, trivial⟩
  refine zP_of (by decide +kernel) rfl (Nat.le_of_ble_eq_true rfl) ?_
  show zA E zNN (0, 0) mX11_tryMoreWorks 0 [(0, .inr (.inr 0)), (1, .inr (.inr l1)), (2, .inl l2)] [] M (zQ Q)
  refine zr_iconst (pc' := 1) dX11_tryMoreWorks_0 rfl ?_
  refine zr_aload_n (pc' := 2) (i := 0) dX11_tryMoreWorks_1 rfl rfl rfl ?_
  refine zr_get (pc' := 5) dX11_tryMoreWorks_2 rfl ps_0 kd_0 fl_X11_40 kc_11 (gv_0_8 _) ?_
  refine zr_get (pc' := 8) dX11_tryMoreWorks_5 rfl ps_28 kd_28 fl_X11_353 kc_1 (gv_28_7 _) ?_
  refine zr_imul (pc' := 9) dX11_tryMoreWorks_8 rfl ?_
  refine zr_istore_n (pc' := 10) (i := 3) (al' := [(3, .inl (2 * (M 28 7))), (0, .inr (.inr 0)), (1, .inr (.inr l1)), (2, .inl l2)]) dX11_tryMoreWorks_9 rfl rfl (by decide) rfl ?_
  refine zr_iconst (pc' := 11) dX11_tryMoreWorks_10 rfl ?_
  refine zr_istore (pc' := 13) (al' := [(4, .inl 0), (3, .inl (2 * (M 28 7))), (0, .inr (.inr 0)), (1, .inr (.inr l1)), (2, .inl l2)]) dX11_tryMoreWorks_11 rfl (by decide) rfl ?_
  obtain ⟨n', h⟩ := h
  exact zn_al ((key n').1 _ _ _ _ h) ⟨rfl, rfl, rfl, rfl, rfl, trivial⟩
set_option maxRecDepth 20000 in
theorem vcX11_weigh {E : zE} {M : zM} {Q : Int → zM → Prop} (l1 l2 l3 : Int) (hi1 : zIs_4 l1) (I18 : Nat → Int → Int → Int → Int → Int → Int → zM → Prop)
    (h : (zP E mX3_allPeople [.inr (.inr 44)] M (fun r1 M2 => ∃ n', I18 n' l2 l3 r1 0 0 0 M2)))
    (h18 : ∀ (n : Nat) (l2 l3 l4 l5 l6 l7 : Int) (M : zM), I18 n l2 l3 l4 l5 l6 l7 M → ((zR l7 ∧ zR (M 0 11)) ∧ (((M 0 11) ≤ l7 → (zP E mX4_offer [.inr (.inr l1), .inl l2, .inl l3, .inl l5, .inl l6] M (fun r3 M4 => Q 0 M4))) ∧ (l7 < (M 0 11) → ((zR l5 ∧ zR (M l1.toNat 3)) ∧ (((M l1.toNat 3) < l5 → (zP E mX4_offer [.inr (.inr l1), .inl l2, .inl l3, .inl l5, .inl l6] M (fun r5 M6 => Q 0 M6))) ∧ (l5 ≤ (M l1.toNat 3) → (0 ≤ l7 ∧ l7 < 3) ∧ (zP E mX0_stepLava [.inr (.inr 35), .inr (.inr 28), .inr (.inr (M 33 l7.toNat))] M (fun r7 M8 => (0 ≤ l7 ∧ l7 < 3) ∧ (zP E mX0_shutsLike [.inr (.inr 35), .inr (.inr (M8 34 l7.toNat)), .inr (.inr 44)] M8 (fun r9 M10 => ((zR r9) ∧ ((r9 = 0 → (0 ≤ l7 ∧ l7 < 3) ∧ (zP E mX0_leadOut [.inr (.inr 35), .inr (.inr (M10 33 l7.toNat)), .inr (.inr 44), .inr (.inr 57)] M10 (fun r11 M12 => (0 ≤ l7 ∧ l7 < 3) ∧ zIs_10 (M12 33 l7.toNat) ∧ (0 ≤ l7 ∧ l7 < 3) ∧ ∃ n', n' < n ∧ I18 n' l2 l3 l4 (l5 + ((M12 ((M12 33 l7.toNat).toNat) 4) * (l4 - (M12 35 8)))) (l6 + ((M12 ((M12 33 l7.toNat).toNat) 4) * (M12 35 3))) (l7 + 1) M12))) ∧ (¬ r9 = 0 → (0 ≤ l7 ∧ l7 < 3) ∧ zIs_0 (M10 34 l7.toNat) ∧ (∀ M15, M15 = zup M10 35 8 (M10 ((M10 34 l7.toNat).toNat) 8) → (0 ≤ l7 ∧ l7 < 3) ∧ zIs_10 (M15 33 l7.toNat) ∧ (0 ≤ l7 ∧ l7 < 3) ∧ ∃ n', n' < n ∧ I18 n' l2 l3 l4 (l5 + ((M15 ((M15 33 l7.toNat).toNat) 4) * (l4 - (M15 35 8)))) (l6 + ((M15 ((M15 33 l7.toNat).toNat) 4) * (M15 35 3))) (l7 + 1) M15)))))))))))))))
    : zP E mX11_weigh [.inr (.inr 0), .inr (.inr l1), .inl l2, .inl l3] M Q := by
  have key : ∀ n : Nat, (∀ (l2 l3 l4 l5 l6 l7 : Int) (M : zM), I18 n l2 l3 l4 l5 l6 l7 M → zA E zNN (0, 0) mX11_weigh 18 [(0, .inr (.inr 0)), (1, .inr (.inr l1)), (2, .inl l2), (3, .inl l3), (4, .inl l4), (5, .inl l5), (6, .inl l6), (7, .inl l7)] [] M (zQ Q)) := by
    intro n
    induction n using Nat.strongRecOn with
    | ind n ih =>
      intro l2 l3 l4 l5 l6 l7 M h
      have h := h18 n l2 l3 l4 l5 l6 l7 M h
      refine zr_iload (pc' := 20) dX11_weigh_18 rfl rfl ?_
      refine zr_aload_n (pc' := 21) (i := 0) dX11_weigh_20 rfl rfl rfl ?_
      refine zr_get (pc' := 24) dX11_weigh_21 rfl ps_0 kd_0 fl_X11_174 kc_11 (gv_0_11 _) ?_
      refine zr_icmp_ge (tgt := 172) (pc' := 27) dX11_weigh_24 rfl rfl h.1.1 h.1.2 (fun hc => ?_) (fun hc => ?_)
      · have h := h.2.1 hc
        refine zr_aload_n (pc' := 173) (i := 1) dX11_weigh_172 rfl rfl rfl ?_
        refine zr_iload_n (pc' := 174) (i := 2) dX11_weigh_173 rfl rfl rfl ?_
        refine zr_iload_n (pc' := 175) (i := 3) dX11_weigh_174 rfl rfl rfl ?_
        refine zr_iload (pc' := 177) dX11_weigh_175 rfl rfl ?_
        refine zr_iload (pc' := 179) dX11_weigh_177 rfl rfl ?_
        refine zn_callV (pc' := 182) (args := [.inl l2, .inl l3, .inl l5, .inl l6]) (st := []) (st' := fun _ => []) dX11_weigh_179 rfl cv_X11_415 ⟨rfl, rfl, by decide, by decide⟩ rfl (is_4_pos hi1) (is_4_kd hi1) rfl rfl (Nat.le_of_ble_eq_true rfl) (fun _ => rfl) h ?_
        intro r3 M4 h
        exact zr_return (x := 0) dX11_weigh_182 rfl (Nat.le_refl _) (Nat.le_refl _) (And.intro rfl h)
      · have h := h.2.2 hc
        refine zr_iload (pc' := 29) dX11_weigh_27 rfl rfl ?_
        refine zr_aload_n (pc' := 30) (i := 1) dX11_weigh_29 rfl rfl rfl ?_
        refine zr_getN (pc' := 33) dX11_weigh_30 rfl (is_4_pos hi1) (is_4_kd hi1) fl_X11_408 kc_4 (is_4_gv_3 hi1 _) ?_
        refine zr_icmp_gt (tgt := 172) (pc' := 36) dX11_weigh_33 rfl rfl h.1.1 h.1.2 (fun hc => ?_) (fun hc => ?_)
        · have h := h.2.1 hc
          refine zr_aload_n (pc' := 173) (i := 1) dX11_weigh_172 rfl rfl rfl ?_
          refine zr_iload_n (pc' := 174) (i := 2) dX11_weigh_173 rfl rfl rfl ?_
          refine zr_iload_n (pc' := 175) (i := 3) dX11_weigh_174 rfl rfl rfl ?_
          refine zr_iload (pc' := 177) dX11_weigh_175 rfl rfl ?_
          refine zr_iload (pc' := 179) dX11_weigh_177 rfl rfl ?_
          refine zn_callV (pc' := 182) (args := [.inl l2, .inl l3, .inl l5, .inl l6]) (st := []) (st' := fun _ => []) dX11_weigh_179 rfl cv_X11_415 ⟨rfl, rfl, by decide, by decide⟩ rfl (is_4_pos hi1) (is_4_kd hi1) rfl rfl (Nat.le_of_ble_eq_true rfl) (fun _ => rfl) h ?_
          intro r5 M6 h
          exact zr_return (x := 0) dX11_weigh_182 rfl (Nat.le_refl _) (Nat.le_refl _) (And.intro rfl h)
        · have h := h.2.2 hc
          refine zr_aload_n (pc' := 37) (i := 0) dX11_weigh_36 rfl rfl rfl ?_
          refine zr_get (pc' := 40) dX11_weigh_37 rfl ps_0 kd_0 fl_X11_57 kc_11 (gv_0_12 _) ?_
          refine zr_aload_n (pc' := 41) (i := 0) dX11_weigh_40 rfl rfl rfl ?_
          refine zr_get (pc' := 44) dX11_weigh_41 rfl ps_0 kd_0 fl_X11_40 kc_11 (gv_0_8 _) ?_
          refine zr_aload_n (pc' := 45) (i := 0) dX11_weigh_44 rfl rfl rfl ?_
          refine zr_get (pc' := 48) dX11_weigh_45 rfl ps_0 kd_0 fl_X11_46 kc_11 (gv_0_9 _) ?_
          refine zr_iload (pc' := 50) dX11_weigh_48 rfl rfl ?_
          refine zr_aald (pc' := 51) (t0 := 5) dX11_weigh_50 rfl ps_33 kd_33 (by decide) (fun _ => rfl) (by decide) h.1.1 h.1.2 ?_
          have h := h.2
          refine zn_callV (pc' := 54) (args := [.inr (.inr 28), .inr (.inr (M 33 l7.toNat))]) (st := []) (st' := fun _ => []) dX11_weigh_51 rfl cv_X11_390 ⟨rfl, rfl, by decide, by decide⟩ rfl ps_35 kd_35 rfl rfl (Nat.le_of_ble_eq_true rfl) (fun _ => rfl) h ?_
          intro r7 M8 h
          refine zr_aload_n (pc' := 55) (i := 0) dX11_weigh_54 rfl rfl rfl ?_
          refine zr_get (pc' := 58) dX11_weigh_55 rfl ps_0 kd_0 fl_X11_57 kc_11 (gv_0_12 _) ?_
          refine zr_aload_n (pc' := 59) (i := 0) dX11_weigh_58 rfl rfl rfl ?_
          refine zr_get (pc' := 62) dX11_weigh_59 rfl ps_0 kd_0 fl_X11_52 kc_11 (gv_0_10 _) ?_
          refine zr_iload (pc' := 64) dX11_weigh_62 rfl rfl ?_
          refine zr_aald (pc' := 65) (t0 := 3) dX11_weigh_64 rfl ps_34 kd_34 (by decide) (fun _ => rfl) (by decide) h.1.1 h.1.2 ?_
          have h := h.2
          refine zr_aload_n (pc' := 66) (i := 0) dX11_weigh_65 rfl rfl rfl ?_
          refine zr_get (pc' := 69) dX11_weigh_66 rfl ps_0 kd_0 fl_X11_64 kc_11 (gv_0_13 _) ?_
          refine zn_callV (pc' := 72) (args := [.inr (.inr (M8 34 l7.toNat)), .inr (.inr 44)]) (st := []) (st' := fun r9 => [.inl r9]) dX11_weigh_69 rfl cv_X11_411 ⟨rfl, rfl, by decide, by decide⟩ rfl ps_35 kd_35 rfl rfl (Nat.le_of_ble_eq_true rfl) (fun _ => rfl) h ?_
          intro r9 M10 h
          refine zr_if_eq (tgt := 95) (pc' := 75) dX11_weigh_72 rfl rfl h.1 (fun hc => ?_) (fun hc => ?_)
          · have h := h.2.1 hc
            refine zr_aload_n (pc' := 96) (i := 0) dX11_weigh_95 rfl rfl rfl ?_
            refine zr_get (pc' := 99) dX11_weigh_96 rfl ps_0 kd_0 fl_X11_57 kc_11 (gv_0_12 _) ?_
            refine zr_aload_n (pc' := 100) (i := 0) dX11_weigh_99 rfl rfl rfl ?_
            refine zr_get (pc' := 103) dX11_weigh_100 rfl ps_0 kd_0 fl_X11_46 kc_11 (gv_0_9 _) ?_
            refine zr_iload (pc' := 105) dX11_weigh_103 rfl rfl ?_
            refine zr_aald (pc' := 106) (t0 := 5) dX11_weigh_105 rfl ps_33 kd_33 (by decide) (fun _ => rfl) (by decide) h.1.1 h.1.2 ?_
            have h := h.2
            refine zr_aload_n (pc' := 107) (i := 0) dX11_weigh_106 rfl rfl rfl ?_
            refine zr_get (pc' := 110) dX11_weigh_107 rfl ps_0 kd_0 fl_X11_64 kc_11 (gv_0_13 _) ?_
            refine zr_aload_n (pc' := 111) (i := 0) dX11_weigh_110 rfl rfl rfl ?_
            refine zr_get (pc' := 114) dX11_weigh_111 rfl ps_0 kd_0 fl_X11_71 kc_11 (gv_0_14 _) ?_
            refine zn_callV (pc' := 117) (args := [.inr (.inr (M10 33 l7.toNat)), .inr (.inr 44), .inr (.inr 57)]) (st := []) (st' := fun _ => []) dX11_weigh_114 rfl cv_X11_394 ⟨rfl, rfl, by decide, by decide⟩ rfl ps_35 kd_35 rfl rfl (Nat.le_of_ble_eq_true rfl) (fun _ => rfl) h ?_
            intro r11 M12 h
            refine zr_iload (pc' := 119) dX11_weigh_117 rfl rfl ?_
            refine zr_aload_n (pc' := 120) (i := 0) dX11_weigh_119 rfl rfl rfl ?_
            refine zr_get (pc' := 123) dX11_weigh_120 rfl ps_0 kd_0 fl_X11_46 kc_11 (gv_0_9 _) ?_
            refine zr_iload (pc' := 125) dX11_weigh_123 rfl rfl ?_
            refine zr_aald (pc' := 126) (t0 := 5) dX11_weigh_125 rfl ps_33 kd_33 (by decide) (fun _ => rfl) (by decide) h.1.1 h.1.2 ?_
            have h := h.2
            have hi13 := h.1
            have h := h.2
            refine zr_get (pc' := 129) dX11_weigh_126 rfl (is_10_pos hi13) (is_10_kd hi13) fl_X11_212 kc_10 (is_10_gv_4 hi13 _) ?_
            refine zr_iload (pc' := 131) dX11_weigh_129 rfl rfl ?_
            refine zr_aload_n (pc' := 132) (i := 0) dX11_weigh_131 rfl rfl rfl ?_
            refine zr_get (pc' := 135) dX11_weigh_132 rfl ps_0 kd_0 fl_X11_57 kc_11 (gv_0_12 _) ?_
            refine zr_get (pc' := 138) dX11_weigh_135 rfl ps_35 kd_35 fl_X11_261 kc_0 (gv_35_8 _) ?_
            refine zr_isub (pc' := 139) dX11_weigh_138 rfl ?_
            refine zr_imul (pc' := 140) dX11_weigh_139 rfl ?_
            refine zr_iadd (pc' := 141) dX11_weigh_140 rfl ?_
            refine zr_istore (pc' := 143) (al' := [(5, .inl (l5 + ((M12 ((M12 33 l7.toNat).toNat) 4) * (l4 - (M12 35 8))))), (0, .inr (.inr 0)), (1, .inr (.inr l1)), (2, .inl l2), (3, .inl l3), (4, .inl l4), (6, .inl l6), (7, .inl l7)]) dX11_weigh_141 rfl (by decide) rfl ?_
            refine zr_iload (pc' := 145) dX11_weigh_143 rfl rfl ?_
            refine zr_aload_n (pc' := 146) (i := 0) dX11_weigh_145 rfl rfl rfl ?_
            refine zr_get (pc' := 149) dX11_weigh_146 rfl ps_0 kd_0 fl_X11_46 kc_11 (gv_0_9 _) ?_
            refine zr_iload (pc' := 151) dX11_weigh_149 rfl rfl ?_
            refine zr_aald (pc' := 152) (t0 := 5) dX11_weigh_151 rfl ps_33 kd_33 (by decide) (fun _ => rfl) (by decide) h.1.1 h.1.2 ?_
            have h := h.2
            refine zr_get (pc' := 155) dX11_weigh_152 rfl (is_10_pos hi13) (is_10_kd hi13) fl_X11_212 kc_10 (is_10_gv_4 hi13 _) ?_
            refine zr_aload_n (pc' := 156) (i := 0) dX11_weigh_155 rfl rfl rfl ?_
            refine zr_get (pc' := 159) dX11_weigh_156 rfl ps_0 kd_0 fl_X11_57 kc_11 (gv_0_12 _) ?_
            refine zr_get (pc' := 162) dX11_weigh_159 rfl ps_35 kd_35 fl_X11_255 kc_0 (gv_35_3 _) ?_
            refine zr_imul (pc' := 163) dX11_weigh_162 rfl ?_
            refine zr_iadd (pc' := 164) dX11_weigh_163 rfl ?_
            refine zr_istore (pc' := 166) (al' := [(6, .inl (l6 + ((M12 ((M12 33 l7.toNat).toNat) 4) * (M12 35 3)))), (5, .inl (l5 + ((M12 ((M12 33 l7.toNat).toNat) 4) * (l4 - (M12 35 8))))), (0, .inr (.inr 0)), (1, .inr (.inr l1)), (2, .inl l2), (3, .inl l3), (4, .inl l4), (7, .inl l7)]) dX11_weigh_164 rfl (by decide) rfl ?_
            refine zr_iinc (pc' := 169) (al' := [(7, .inl (l7 + 1)), (6, .inl (l6 + ((M12 ((M12 33 l7.toNat).toNat) 4) * (M12 35 3)))), (5, .inl (l5 + ((M12 ((M12 33 l7.toNat).toNat) 4) * (l4 - (M12 35 8))))), (0, .inr (.inr 0)), (1, .inr (.inr l1)), (2, .inl l2), (3, .inl l3), (4, .inl l4)]) dX11_weigh_166 rfl rfl (by decide) rfl ?_
            refine zr_goto (pc' := 18) dX11_weigh_169 rfl ?_
            obtain ⟨n', hn, h⟩ := h
            exact zn_al ((ih n' hn) _ _ _ _ _ _ _ h) ⟨rfl, rfl, rfl, rfl, rfl, rfl, rfl, rfl, trivial⟩
          · have h := h.2.2 hc
            refine zr_aload_n (pc' := 76) (i := 0) dX11_weigh_75 rfl rfl rfl ?_
            refine zr_get (pc' := 79) dX11_weigh_76 rfl ps_0 kd_0 fl_X11_57 kc_11 (gv_0_12 _) ?_
            refine zr_aload_n (pc' := 80) (i := 0) dX11_weigh_79 rfl rfl rfl ?_
            refine zr_get (pc' := 83) dX11_weigh_80 rfl ps_0 kd_0 fl_X11_52 kc_11 (gv_0_10 _) ?_
            refine zr_iload (pc' := 85) dX11_weigh_83 rfl rfl ?_
            refine zr_aald (pc' := 86) (t0 := 3) dX11_weigh_85 rfl ps_34 kd_34 (by decide) (fun _ => rfl) (by decide) h.1.1 h.1.2 ?_
            have h := h.2
            have hi14 := h.1
            have h := h.2
            refine zr_get (pc' := 89) dX11_weigh_86 rfl (is_0_pos hi14) (is_0_kd hi14) fl_X11_261 kc_0 (is_0_gv_8 hi14 _) ?_
            refine zr_put (pc' := 92) dX11_weigh_89 rfl ps_35 kd_35 fl_X11_261 kc_0 rfl nf_35_8 rfl trivial (fun M15 hM1 => ?_)
            have h := h M15 hM1
            refine zr_goto (pc' := 117) dX11_weigh_92 rfl ?_
            refine zr_iload (pc' := 119) dX11_weigh_117 rfl rfl ?_
            refine zr_aload_n (pc' := 120) (i := 0) dX11_weigh_119 rfl rfl rfl ?_
            refine zr_get (pc' := 123) dX11_weigh_120 rfl ps_0 kd_0 fl_X11_46 kc_11 (gv_0_9 _) ?_
            refine zr_iload (pc' := 125) dX11_weigh_123 rfl rfl ?_
            refine zr_aald (pc' := 126) (t0 := 5) dX11_weigh_125 rfl ps_33 kd_33 (by decide) (fun _ => rfl) (by decide) h.1.1 h.1.2 ?_
            have h := h.2
            have hi16 := h.1
            have h := h.2
            refine zr_get (pc' := 129) dX11_weigh_126 rfl (is_10_pos hi16) (is_10_kd hi16) fl_X11_212 kc_10 (is_10_gv_4 hi16 _) ?_
            refine zr_iload (pc' := 131) dX11_weigh_129 rfl rfl ?_
            refine zr_aload_n (pc' := 132) (i := 0) dX11_weigh_131 rfl rfl rfl ?_
            refine zr_get (pc' := 135) dX11_weigh_132 rfl ps_0 kd_0 fl_X11_57 kc_11 (gv_0_12 _) ?_
            refine zr_get (pc' := 138) dX11_weigh_135 rfl ps_35 kd_35 fl_X11_261 kc_0 (gv_35_8 _) ?_
            refine zr_isub (pc' := 139) dX11_weigh_138 rfl ?_
            refine zr_imul (pc' := 140) dX11_weigh_139 rfl ?_
            refine zr_iadd (pc' := 141) dX11_weigh_140 rfl ?_
            refine zr_istore (pc' := 143) (al' := [(5, .inl (l5 + ((M15 ((M15 33 l7.toNat).toNat) 4) * (l4 - (M15 35 8))))), (0, .inr (.inr 0)), (1, .inr (.inr l1)), (2, .inl l2), (3, .inl l3), (4, .inl l4), (6, .inl l6), (7, .inl l7)]) dX11_weigh_141 rfl (by decide) rfl ?_
            refine zr_iload (pc' := 145) dX11_weigh_143 rfl rfl ?_
            refine zr_aload_n (pc' := 146) (i := 0) dX11_weigh_145 rfl rfl rfl ?_
            refine zr_get (pc' := 149) dX11_weigh_146 rfl ps_0 kd_0 fl_X11_46 kc_11 (gv_0_9 _) ?_
            refine zr_iload (pc' := 151) dX11_weigh_149 rfl rfl ?_
            refine zr_aald (pc' := 152) (t0 := 5) dX11_weigh_151 rfl ps_33 kd_33 (by decide) (fun _ => rfl) (by decide) h.1.1 h.1.2 ?_
            have h := h.2
            refine zr_get (pc' := 155) dX11_weigh_152 rfl (is_10_pos hi16) (is_10_kd hi16) fl_X11_212 kc_10 (is_10_gv_4 hi16 _) ?_
            refine zr_aload_n (pc' := 156) (i := 0) dX11_weigh_155 rfl rfl rfl ?_
            refine zr_get (pc' := 159) dX11_weigh_156 rfl ps_0 kd_0 fl_X11_57 kc_11 (gv_0_12 _) ?_
            refine zr_get (pc' := 162) dX11_weigh_159 rfl ps_35 kd_35 fl_X11_255 kc_0 (gv_35_3 _) ?_
            refine zr_imul (pc' := 163) dX11_weigh_162 rfl ?_
            refine zr_iadd (pc' := 164) dX11_weigh_163 rfl ?_
            refine zr_istore (pc' := 166) (al' := [(6, .inl (l6 + ((M15 ((M15 33 l7.toNat).toNat) 4) * (M15 35 3)))), (5, .inl (l5 + ((M15 ((M15 33 l7.toNat).toNat) 4) * (l4 - (M15 35 8))))), (0, .inr (.inr 0)), (1, .inr (.inr l1)), (2, .inl l2), (3, .inl l3), (4, .inl l4), (7, .inl l7)]) dX11_weigh_164 rfl (by decide) rfl ?_
            refine zr_iinc (pc' := 169) (al' := [(7, .inl (l7 + 1)), (6, .inl (l6 + ((M15 ((M15 33 l7.toNat).toNat) 4) * (M15 35 3)))), (5, .inl (l5 + ((M15 ((M15 33 l7.toNat).toNat) 4) * (l4 - (M15 35 8))))), (0, .inr (.inr 0)), (1, .inr (.inr l1)), (2, .inl l2), (3, .inl l3), (4, .inl l4)]) dX11_weigh_166 rfl rfl (by decide) rfl ?_
            refine zr_goto (pc' := 18) dX11_weigh_169 rfl ?_
            obtain ⟨n', hn, h⟩ := h
            exact zn_al ((ih n' hn) _ _ _ _ _ _ _ h) ⟨rfl, rfl, rfl, rfl, rfl, rfl, rfl, rfl, trivial⟩
  refine zP_of (by decide +kernel) rfl (Nat.le_of_ble_eq_true rfl) ?_
  show zA E zNN (0, 0) mX11_weigh 0 [(0, .inr (.inr 0)), (1, .inr (.inr l1)), (2, .inl l2), (3, .inl l3)] [] M (zQ Q)
  refine zr_aload_n (pc' := 1) (i := 0) dX11_weigh_0 rfl rfl rfl ?_
  refine zr_get (pc' := 4) dX11_weigh_1 rfl ps_0 kd_0 fl_X11_64 kc_11 (gv_0_13 _) ?_
  refine zn_callV (pc' := 7) (args := []) (st := []) (st' := fun r1 => [.inl r1]) dX11_weigh_4 rfl cv_X11_264 ⟨rfl, rfl, by decide, by decide⟩ rfl ps_44 kd_44 rfl rfl (Nat.le_of_ble_eq_true rfl) (fun _ => rfl) h ?_
  intro r1 M2 h
  refine zr_istore (pc' := 9) (al' := [(4, .inl r1), (0, .inr (.inr 0)), (1, .inr (.inr l1)), (2, .inl l2), (3, .inl l3)]) dX11_weigh_7 rfl (by decide) rfl ?_
  refine zr_iconst (pc' := 10) dX11_weigh_9 rfl ?_
  refine zr_istore (pc' := 12) (al' := [(5, .inl 0), (4, .inl r1), (0, .inr (.inr 0)), (1, .inr (.inr l1)), (2, .inl l2), (3, .inl l3)]) dX11_weigh_10 rfl (by decide) rfl ?_
  refine zr_iconst (pc' := 13) dX11_weigh_12 rfl ?_
  refine zr_istore (pc' := 15) (al' := [(6, .inl 0), (5, .inl 0), (4, .inl r1), (0, .inr (.inr 0)), (1, .inr (.inr l1)), (2, .inl l2), (3, .inl l3)]) dX11_weigh_13 rfl (by decide) rfl ?_
  refine zr_iconst (pc' := 16) dX11_weigh_15 rfl ?_
  refine zr_istore (pc' := 18) (al' := [(7, .inl 0), (6, .inl 0), (5, .inl 0), (4, .inl r1), (0, .inr (.inr 0)), (1, .inr (.inr l1)), (2, .inl l2), (3, .inl l3)]) dX11_weigh_16 rfl (by decide) rfl ?_
  obtain ⟨n', h⟩ := h
  exact zn_al ((key n') _ _ _ _ _ _ _ h) ⟨rfl, rfl, rfl, rfl, rfl, rfl, rfl, rfl, trivial⟩
