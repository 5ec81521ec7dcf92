set_option maxRecDepth 20000 in
theorem vcX12_number {E : zE} {M : zM} {Q : Int → zM → Prop} (l1 l2 : Int)
    (h : ((zR (M 102 19)) ∧ (((M 102 19) = 2 → ((zR (M 102 20) ∧ zR l1) ∧ (((M 102 20) < l1 → (zP E mX12_wrong [.inr (.inr 102), .inl 2] M (fun r1 M2 => ((zR r1) ∧ ((r1 = 0 → Q 0 M2) ∧ (¬ r1 = 0 → Q 1 M2)))))) ∧ (l1 ≤ (M 102 20) → ((zR (M 102 20) ∧ zR l2) ∧ (((M 102 20) ≤ l2 → Q 1 M) ∧ (l2 < (M 102 20) → (zP E mX12_wrong [.inr (.inr 102), .inl 2] M (fun r3 M4 => ((zR r3) ∧ ((r3 = 0 → Q 0 M4) ∧ (¬ r3 = 0 → Q 1 M4)))))))))))) ∧ (¬ (M 102 19) = 2 → (zP E mX12_wrong [.inr (.inr 102), .inl 1] M (fun r5 M6 => ((r5 = 0 ∨ r5 = 1) ∧ Q r5 M6)))))))
    : zP E mX12_number [.inr (.inr 102), .inl l1, .inl l2] M Q := by
  refine zP_of (by decide +kernel) rfl (Nat.le_of_ble_eq_true rfl) ?_
  show zA E zNN (0, 0) mX12_number 0 [(0, .inr (.inr 102)), (1, .inl l1), (2, .inl l2)] [] M (zQ Q)
  refine zr_aload_n (pc' := 1) (i := 0) dX12_number_0 rfl rfl rfl ?_
  refine zr_get (pc' := 4) dX12_number_1 rfl ps_102 kd_102 fl_X12_254 kc_12 (gv_102_19 _) ?_
  refine zr_iconst (pc' := 5) dX12_number_4 rfl ?_
  refine zr_icmp_eq (tgt := 14) (pc' := 8) dX12_number_5 rfl rfl h.1 (zRd rfl) (fun hc => ?_) (fun hc => ?_)
  · have h := h.2.1 hc
    refine zr_aload_n (pc' := 15) (i := 0) dX12_number_14 rfl rfl rfl ?_
    refine zr_get (pc' := 18) dX12_number_15 rfl ps_102 kd_102 fl_X12_264 kc_12 (gv_102_20 _) ?_
    refine zr_iload_n (pc' := 19) (i := 1) dX12_number_18 rfl rfl rfl ?_
    refine zr_icmp_lt (tgt := 30) (pc' := 22) dX12_number_19 rfl rfl h.1.1 h.1.2 (fun hc => ?_) (fun hc => ?_)
    · have h := h.2.1 hc
      refine zr_aload_n (pc' := 31) (i := 0) dX12_number_30 rfl rfl rfl ?_
      refine zr_iconst (pc' := 32) dX12_number_31 rfl ?_
      refine zn_callV (pc' := 35) (args := [.inl 2]) (st := []) (st' := fun r1 => [.inl r1]) dX12_number_32 rfl cv_X12_278 ⟨rfl, rfl, by decide, by decide⟩ rfl ps_102 kd_102 rfl rfl (Nat.le_of_ble_eq_true rfl) (fun _ => rfl) h ?_
      intro r1 M2 h
      refine zr_if_eq (tgt := 42) (pc' := 38) dX12_number_35 rfl rfl h.1 (fun hc => ?_) (fun hc => ?_)
      · have h := h.2.1 hc
        refine zr_iconst (pc' := 43) dX12_number_42 rfl ?_
        exact zr_ireturn dX12_number_43 rfl rfl (Or.inl rfl) (Nat.le_refl _) (Nat.le_refl _) (And.intro rfl h)
      · have h := h.2.2 hc
        refine zr_iconst (pc' := 39) dX12_number_38 rfl ?_
        refine zr_goto (pc' := 43) dX12_number_39 rfl ?_
        exact zr_ireturn dX12_number_43 rfl rfl (Or.inr rfl) (Nat.le_refl _) (Nat.le_refl _) (And.intro rfl h)
    · have h := h.2.2 hc
      refine zr_aload_n (pc' := 23) (i := 0) dX12_number_22 rfl rfl rfl ?_
      refine zr_get (pc' := 26) dX12_number_23 rfl ps_102 kd_102 fl_X12_264 kc_12 (gv_102_20 _) ?_
      refine zr_iload_n (pc' := 27) (i := 2) dX12_number_26 rfl rfl rfl ?_
      refine zr_icmp_le (tgt := 38) (pc' := 30) dX12_number_27 rfl rfl h.1.1 h.1.2 (fun hc => ?_) (fun hc => ?_)
      · have h := h.2.1 hc
        refine zr_iconst (pc' := 39) dX12_number_38 rfl ?_
        refine zr_goto (pc' := 43) dX12_number_39 rfl ?_
        exact zr_ireturn dX12_number_43 rfl rfl (Or.inr rfl) (Nat.le_refl _) (Nat.le_refl _) (And.intro rfl h)
      · have h := h.2.2 hc
        refine zr_aload_n (pc' := 31) (i := 0) dX12_number_30 rfl rfl rfl ?_
        refine zr_iconst (pc' := 32) dX12_number_31 rfl ?_
        refine zn_callV (pc' := 35) (args := [.inl 2]) (st := []) (st' := fun r3 => [.inl r3]) dX12_number_32 rfl cv_X12_278 ⟨rfl, rfl, by decide, by decide⟩ rfl ps_102 kd_102 rfl rfl (Nat.le_of_ble_eq_true rfl) (fun _ => rfl) h ?_
        intro r3 M4 h
        refine zr_if_eq (tgt := 42) (pc' := 38) dX12_number_35 rfl rfl h.1 (fun hc => ?_) (fun hc => ?_)
        · have h := h.2.1 hc
          refine zr_iconst (pc' := 43) dX12_number_42 rfl ?_
          exact zr_ireturn dX12_number_43 rfl rfl (Or.inl rfl) (Nat.le_refl _) (Nat.le_refl _) (And.intro rfl h)
        · have h := h.2.2 hc
          refine zr_iconst (pc' := 39) dX12_number_38 rfl ?_
          refine zr_goto (pc' := 43) dX12_number_39 rfl ?_
          exact zr_ireturn dX12_number_43 rfl rfl (Or.inr rfl) (Nat.le_refl _) (Nat.le_refl _) (And.intro rfl h)
  · have h := h.2.2 hc
    refine zr_aload_n (pc' := 9) (i := 0) dX12_number_8 rfl rfl rfl ?_
    refine zr_iconst (pc' := 10) dX12_number_9 rfl ?_
    refine zn_callV (pc' := 13) (args := [.inl 1]) (st := []) (st' := fun r5 => [.inl r5]) dX12_number_10 rfl cv_X12_278 ⟨rfl, rfl, by decide, by decide⟩ rfl ps_102 kd_102 rfl rfl (Nat.le_of_ble_eq_true rfl) (fun _ => rfl) h ?_
    intro r5 M6 h
    exact zr_ireturn dX12_number_13 rfl rfl h.1 (Nat.le_refl _) (Nat.le_refl _) (And.intro rfl h.2)
set_option maxRecDepth 20000 in
theorem vcX12_sign {E : zE} {M : zM} {Q : Int → zM → Prop} (l1 : Int)
    (h : (zP E mX12_isSign [.inr (.inr 102), .inl l1] M (fun r1 M2 => ((zR r1) ∧ ((¬ r1 = 0 → (zP E mX12_take [.inr (.inr 102)] M2 (fun r3 M4 => Q 1 M4))) ∧ (r1 = 0 → (zP E mX12_wrong [.inr (.inr 102), .inl 1] M2 (fun r5 M6 => ((r5 = 0 ∨ r5 = 1) ∧ Q r5 M6)))))))))
    : zP E mX12_sign [.inr (.inr 102), .inl l1] M Q := by
  refine zP_of (by decide +kernel) rfl (Nat.le_of_ble_eq_true rfl) ?_
  show zA E zNN (0, 0) mX12_sign 0 [(0, .inr (.inr 102)), (1, .inl l1)] [] M (zQ Q)
  refine zr_aload_n (pc' := 1) (i := 0) dX12_sign_0 rfl rfl rfl ?_
  refine zr_iload_n (pc' := 2) (i := 1) dX12_sign_1 rfl rfl rfl ?_
  refine zn_callV (pc' := 5) (args := [.inl l1]) (st := []) (st' := fun r1 => [.inl r1]) dX12_sign_2 rfl cv_X12_314 ⟨rfl, rfl, by decide, by decide⟩ rfl ps_102 kd_102 rfl rfl (Nat.le_of_ble_eq_true rfl) (fun _ => rfl) h ?_
  intro r1 M2 h
  refine zr_if_ne (tgt := 14) (pc' := 8) dX12_sign_5 rfl rfl h.1 (fun hc => ?_) (fun hc => ?_)
  · have h := h.2.1 hc
    refine zr_aload_n (pc' := 15) (i := 0) dX12_sign_14 rfl rfl rfl ?_
    refine zn_callV (pc' := 18) (args := []) (st := []) (st' := fun _ => []) dX12_sign_15 rfl cv_X12_311 ⟨rfl, rfl, by decide, by decide⟩ rfl ps_102 kd_102 rfl rfl (Nat.le_of_ble_eq_true rfl) (fun _ => rfl) h ?_
    intro r3 M4 h
    refine zr_iconst (pc' := 19) dX12_sign_18 rfl ?_
    exact zr_ireturn dX12_sign_19 rfl rfl (Or.inr rfl) (Nat.le_refl _) (Nat.le_refl _) (And.intro rfl h)
  · have h := h.2.2 hc
    refine zr_aload_n (pc' := 9) (i := 0) dX12_sign_8 rfl rfl rfl ?_
    refine zr_iconst (pc' := 10) dX12_sign_9 rfl ?_
    refine zn_callV (pc' := 13) (args := [.inl 1]) (st := []) (st' := fun r5 => [.inl r5]) dX12_sign_10 rfl cv_X12_278 ⟨rfl, rfl, by decide, by decide⟩ rfl ps_102 kd_102 rfl rfl (Nat.le_of_ble_eq_true rfl) (fun _ => rfl) h ?_
    intro r5 M6 h
    exact zr_ireturn dX12_sign_13 rfl rfl h.1 (Nat.le_refl _) (Nat.le_refl _) (And.intro rfl h.2)
set_option maxRecDepth 20000 in
theorem vcX12_whatRead {E : zE} {M : zM} {Q : Int → zM → Prop}
    (h : (zP E mX12_grown [.inr (.inr 102), .inl 15, .inl 0] M (fun r1 M2 => ((zR r1) ∧ ((0 ≤ r1 → (0 ≤ r1 ∧ r1 < 128) ∧ (∀ M3, M3 = zup M2 117 r1.toNat (M2 102 20) → (zP E mX12_take [.inr (.inr 102)] M3 (fun r4 M5 => (zP E mX12_isSign [.inr (.inr 102), .inl 40] M5 (fun r6 M7 => ((zR r6) ∧ ((r6 = 0 → (zP E mX12_sign [.inr (.inr 102), .inl 40] M7 (fun r8 M9 => ((zR r8) ∧ ((¬ r8 = 0 → ((zR (M9 102 19)) ∧ ((¬ (M9 102 19) = 1 → (zP E mX12_wrong [.inr (.inr 102), .inl 1] M9 (fun r10 M11 => ((r10 = 0 ∨ r10 = 1) ∧ Q r10 M11)))) ∧ ((M9 102 19) = 1 → ((zR (M9 102 20)) ∧ ((12 ≤ (M9 102 20) → (0 ≤ r1 ∧ r1 < 128) ∧ (∀ M12, M12 = zup M9 118 r1.toNat ((M9 102 20) - 12) → (zP E mX12_take [.inr (.inr 102)] M12 (fun r13 M14 => (zP E mX12_sign [.inr (.inr 102), .inl 44] M14 (fun r15 M16 => ((zR r15) ∧ ((r15 = 0 → Q 0 M16) ∧ (¬ r15 = 0 → (zP E mX12_number [.inr (.inr 102), .inl 1, .inl 48] M16 (fun r17 M18 => ((zR r17) ∧ ((¬ r17 = 0 → (0 ≤ r1 ∧ r1 < 128) ∧ (∀ M19, M19 = zup M18 116 r1.toNat (M18 102 20) → (zP E mX12_take [.inr (.inr 102)] M19 (fun r20 M21 => (zP E mX12_sign [.inr (.inr 102), .inl 41] M21 (fun r22 M23 => ((zR r22) ∧ ((¬ r22 = 0 → (∀ M24, M24 = zup M23 102 48 0 → (zP E mX12_done [.inr (.inr 102), .inl r1] M24 (fun r25 M26 => Q 1 M26)))) ∧ (r22 = 0 → Q 0 M23))))))))) ∧ (r17 = 0 → Q 0 M18)))))))))))))) ∧ ((M9 102 20) < 12 → (zP E mX12_wrong [.inr (.inr 102), .inl 1] M9 (fun r27 M28 => ((r27 = 0 ∨ r27 = 1) ∧ Q r27 M28)))))))))) ∧ (r8 = 0 → Q 0 M9)))))) ∧ (¬ r6 = 0 → ((zR (M7 102 46)) ∧ ((¬ (M7 102 46) = 8 → (zP E mX12_sign [.inr (.inr 102), .inl 40] M7 (fun r29 M30 => ((zR r29) ∧ ((¬ r29 = 0 → ((zR (M30 102 19)) ∧ ((¬ (M30 102 19) = 1 → (zP E mX12_wrong [.inr (.inr 102), .inl 1] M30 (fun r31 M32 => ((r31 = 0 ∨ r31 = 1) ∧ Q r31 M32)))) ∧ ((M30 102 19) = 1 → ((zR (M30 102 20)) ∧ ((12 ≤ (M30 102 20) → (0 ≤ r1 ∧ r1 < 128) ∧ (∀ M33, M33 = zup M30 118 r1.toNat ((M30 102 20) - 12) → (zP E mX12_take [.inr (.inr 102)] M33 (fun r34 M35 => (zP E mX12_sign [.inr (.inr 102), .inl 44] M35 (fun r36 M37 => ((zR r36) ∧ ((r36 = 0 → Q 0 M37) ∧ (¬ r36 = 0 → (zP E mX12_number [.inr (.inr 102), .inl 1, .inl 48] M37 (fun r38 M39 => ((zR r38) ∧ ((¬ r38 = 0 → (0 ≤ r1 ∧ r1 < 128) ∧ (∀ M40, M40 = zup M39 116 r1.toNat (M39 102 20) → (zP E mX12_take [.inr (.inr 102)] M40 (fun r41 M42 => (zP E mX12_sign [.inr (.inr 102), .inl 41] M42 (fun r43 M44 => ((zR r43) ∧ ((¬ r43 = 0 → (∀ M45, M45 = zup M44 102 48 0 → (zP E mX12_done [.inr (.inr 102), .inl r1] M45 (fun r46 M47 => Q 1 M47)))) ∧ (r43 = 0 → Q 0 M44))))))))) ∧ (r38 = 0 → Q 0 M39)))))))))))))) ∧ ((M30 102 20) < 12 → (zP E mX12_wrong [.inr (.inr 102), .inl 1] M30 (fun r48 M49 => ((r48 = 0 ∨ r48 = 1) ∧ Q r48 M49)))))))))) ∧ (r29 = 0 → Q 0 M30)))))) ∧ ((M7 102 46) = 8 → (zP E mX12_wrong [.inr (.inr 102), .inl 2] M7 (fun r50 M51 => ((r50 = 0 ∨ r50 = 1) ∧ Q r50 M51))))))))))))))) ∧ (r1 < 0 → Q 0 M2))))))
    : zP E mX12_whatRead [.inr (.inr 102)] M Q := by
  refine zP_of (by decide +kernel) rfl (Nat.le_of_ble_eq_true rfl) ?_
  show zA E zNN (0, 0) mX12_whatRead 0 [(0, .inr (.inr 102))] [] M (zQ Q)
  refine zr_aload_n (pc' := 1) (i := 0) dX12_whatRead_0 rfl rfl rfl ?_
  refine zr_bipush (pc' := 3) dX12_whatRead_1 rfl rfl ?_
  refine zr_iconst (pc' := 4) dX12_whatRead_3 rfl ?_
  refine zn_callV (pc' := 7) (args := [.inl 15, .inl 0]) (st := []) (st' := fun r1 => [.inl r1]) dX12_whatRead_4 rfl cv_X12_300 ⟨rfl, rfl, by decide, by decide⟩ rfl ps_102 kd_102 rfl rfl (Nat.le_of_ble_eq_true rfl) (fun _ => rfl) h ?_
  intro r1 M2 h
  refine zr_istore_n (pc' := 8) (i := 1) (al' := [(1, .inl r1), (0, .inr (.inr 102))]) dX12_whatRead_7 rfl rfl (by decide) rfl ?_
  refine zr_iload_n (pc' := 9) (i := 1) dX12_whatRead_8 rfl rfl rfl ?_
  refine zr_if_ge (tgt := 14) (pc' := 12) dX12_whatRead_9 rfl rfl h.1 (fun hc => ?_) (fun hc => ?_)
  · have h := h.2.1 hc
    refine zr_aload_n (pc' := 15) (i := 0) dX12_whatRead_14 rfl rfl rfl ?_
    refine zr_get (pc' := 18) dX12_whatRead_15 rfl ps_102 kd_102 fl_X12_57 kc_12 (gv_102_26 _) ?_
    refine zr_iload_n (pc' := 19) (i := 1) dX12_whatRead_18 rfl rfl rfl ?_
    refine zr_aload_n (pc' := 20) (i := 0) dX12_whatRead_19 rfl rfl rfl ?_
    refine zr_get (pc' := 23) dX12_whatRead_20 rfl ps_102 kd_102 fl_X12_264 kc_12 (gv_102_20 _) ?_
    refine zr_iast (pc' := 24) dX12_whatRead_23 rfl ps_117 kd_117 (by decide) h.1.1 h.1.2 (fun M3 hM1 => ?_)
    have h := h.2 M3 hM1
    refine zr_aload_n (pc' := 25) (i := 0) dX12_whatRead_24 rfl rfl rfl ?_
    refine zn_callV (pc' := 28) (args := []) (st := []) (st' := fun _ => []) dX12_whatRead_25 rfl cv_X12_311 ⟨rfl, rfl, by decide, by decide⟩ rfl ps_102 kd_102 rfl rfl (Nat.le_of_ble_eq_true rfl) (fun _ => rfl) h ?_
    intro r4 M5 h
    refine zr_aload_n (pc' := 29) (i := 0) dX12_whatRead_28 rfl rfl rfl ?_
    refine zr_bipush (pc' := 31) dX12_whatRead_29 rfl rfl ?_
    refine zn_callV (pc' := 34) (args := [.inl 40]) (st := []) (st' := fun r6 => [.inl r6]) dX12_whatRead_31 rfl cv_X12_314 ⟨rfl, rfl, by decide, by decide⟩ rfl ps_102 kd_102 rfl rfl (Nat.le_of_ble_eq_true rfl) (fun _ => rfl) h ?_
    intro r6 M7 h
    refine zr_if_eq (tgt := 52) (pc' := 37) dX12_whatRead_34 rfl rfl h.1 (fun hc => ?_) (fun hc => ?_)
    · have h := h.2.1 hc
      refine zr_aload_n (pc' := 53) (i := 0) dX12_whatRead_52 rfl rfl rfl ?_
      refine zr_bipush (pc' := 55) dX12_whatRead_53 rfl rfl ?_
      refine zn_callV (pc' := 58) (args := [.inl 40]) (st := []) (st' := fun r8 => [.inl r8]) dX12_whatRead_55 rfl cv_X12_320 ⟨rfl, rfl, by decide, by decide⟩ rfl ps_102 kd_102 rfl rfl (Nat.le_of_ble_eq_true rfl) (fun _ => rfl) h ?_
      intro r8 M9 h
      refine zr_if_ne (tgt := 63) (pc' := 61) dX12_whatRead_58 rfl rfl h.1 (fun hc => ?_) (fun hc => ?_)
      · have h := h.2.1 hc
        refine zr_aload_n (pc' := 64) (i := 0) dX12_whatRead_63 rfl rfl rfl ?_
        refine zr_get (pc' := 67) dX12_whatRead_64 rfl ps_102 kd_102 fl_X12_254 kc_12 (gv_102_19 _) ?_
        refine zr_iconst (pc' := 68) dX12_whatRead_67 rfl ?_
        refine zr_icmp_ne (tgt := 80) (pc' := 71) dX12_whatRead_68 rfl rfl h.1 (zRd rfl) (fun hc => ?_) (fun hc => ?_)
        · have h := h.2.1 hc
          refine zr_aload_n (pc' := 81) (i := 0) dX12_whatRead_80 rfl rfl rfl ?_
          refine zr_iconst (pc' := 82) dX12_whatRead_81 rfl ?_
          refine zn_callV (pc' := 85) (args := [.inl 1]) (st := []) (st' := fun r10 => [.inl r10]) dX12_whatRead_82 rfl cv_X12_278 ⟨rfl, rfl, by decide, by decide⟩ rfl ps_102 kd_102 rfl rfl (Nat.le_of_ble_eq_true rfl) (fun _ => rfl) h ?_
          intro r10 M11 h
          exact zr_ireturn dX12_whatRead_85 rfl rfl h.1 (Nat.le_refl _) (Nat.le_refl _) (And.intro rfl h.2)
        · have h := h.2.2 hc
          refine zr_aload_n (pc' := 72) (i := 0) dX12_whatRead_71 rfl rfl rfl ?_
          refine zr_get (pc' := 75) dX12_whatRead_72 rfl ps_102 kd_102 fl_X12_264 kc_12 (gv_102_20 _) ?_
          refine zr_bipush (pc' := 77) dX12_whatRead_75 rfl rfl ?_
          refine zr_icmp_ge (tgt := 86) (pc' := 80) dX12_whatRead_77 rfl rfl h.1 (zRd rfl) (fun hc => ?_) (fun hc => ?_)
          · have h := h.2.1 hc
            refine zr_aload_n (pc' := 87) (i := 0) dX12_whatRead_86 rfl rfl rfl ?_
            refine zr_get (pc' := 90) dX12_whatRead_87 rfl ps_102 kd_102 fl_X12_60 kc_12 (gv_102_27 _) ?_
            refine zr_iload_n (pc' := 91) (i := 1) dX12_whatRead_90 rfl rfl rfl ?_
            refine zr_aload_n (pc' := 92) (i := 0) dX12_whatRead_91 rfl rfl rfl ?_
            refine zr_get (pc' := 95) dX12_whatRead_92 rfl ps_102 kd_102 fl_X12_264 kc_12 (gv_102_20 _) ?_
            refine zr_bipush (pc' := 97) dX12_whatRead_95 rfl rfl ?_
            refine zr_isub (pc' := 98) dX12_whatRead_97 rfl ?_
            refine zr_iast (pc' := 99) dX12_whatRead_98 rfl ps_118 kd_118 (by decide) h.1.1 h.1.2 (fun M12 hM1 => ?_)
            have h := h.2 M12 hM1
            refine zr_aload_n (pc' := 100) (i := 0) dX12_whatRead_99 rfl rfl rfl ?_
            refine zn_callV (pc' := 103) (args := []) (st := []) (st' := fun _ => []) dX12_whatRead_100 rfl cv_X12_311 ⟨rfl, rfl, by decide, by decide⟩ rfl ps_102 kd_102 rfl rfl (Nat.le_of_ble_eq_true rfl) (fun _ => rfl) h ?_
            intro r13 M14 h
            refine zr_aload_n (pc' := 104) (i := 0) dX12_whatRead_103 rfl rfl rfl ?_
            refine zr_bipush (pc' := 106) dX12_whatRead_104 rfl rfl ?_
            refine zn_callV (pc' := 109) (args := [.inl 44]) (st := []) (st' := fun r15 => [.inl r15]) dX12_whatRead_106 rfl cv_X12_320 ⟨rfl, rfl, by decide, by decide⟩ rfl ps_102 kd_102 rfl rfl (Nat.le_of_ble_eq_true rfl) (fun _ => rfl) h ?_
            intro r15 M16 h
            refine zr_if_eq (tgt := 122) (pc' := 112) dX12_whatRead_109 rfl rfl h.1 (fun hc => ?_) (fun hc => ?_)
            · have h := h.2.1 hc
              refine zr_iconst (pc' := 123) dX12_whatRead_122 rfl ?_
              exact zr_ireturn dX12_whatRead_123 rfl rfl (Or.inl rfl) (Nat.le_refl _) (Nat.le_refl _) (And.intro rfl h)
            · have h := h.2.2 hc
              refine zr_aload_n (pc' := 113) (i := 0) dX12_whatRead_112 rfl rfl rfl ?_
              refine zr_iconst (pc' := 114) dX12_whatRead_113 rfl ?_
              refine zr_bipush (pc' := 116) dX12_whatRead_114 rfl rfl ?_
              refine zn_callV (pc' := 119) (args := [.inl 1, .inl 48]) (st := []) (st' := fun r17 => [.inl r17]) dX12_whatRead_116 rfl cv_X12_323 ⟨rfl, rfl, by decide, by decide⟩ rfl ps_102 kd_102 rfl rfl (Nat.le_of_ble_eq_true rfl) (fun _ => rfl) h ?_
              intro r17 M18 h
              refine zr_if_ne (tgt := 124) (pc' := 122) dX12_whatRead_119 rfl rfl h.1 (fun hc => ?_) (fun hc => ?_)
              · have h := h.2.1 hc
                refine zr_aload_n (pc' := 125) (i := 0) dX12_whatRead_124 rfl rfl rfl ?_
                refine zr_get (pc' := 128) dX12_whatRead_125 rfl ps_102 kd_102 fl_X12_54 kc_12 (gv_102_25 _) ?_
                refine zr_iload_n (pc' := 129) (i := 1) dX12_whatRead_128 rfl rfl rfl ?_
                refine zr_aload_n (pc' := 130) (i := 0) dX12_whatRead_129 rfl rfl rfl ?_
                refine zr_get (pc' := 133) dX12_whatRead_130 rfl ps_102 kd_102 fl_X12_264 kc_12 (gv_102_20 _) ?_
                refine zr_iast (pc' := 134) dX12_whatRead_133 rfl ps_116 kd_116 (by decide) h.1.1 h.1.2 (fun M19 hM1 => ?_)
                have h := h.2 M19 hM1
                refine zr_aload_n (pc' := 135) (i := 0) dX12_whatRead_134 rfl rfl rfl ?_
                refine zn_callV (pc' := 138) (args := []) (st := []) (st' := fun _ => []) dX12_whatRead_135 rfl cv_X12_311 ⟨rfl, rfl, by decide, by decide⟩ rfl ps_102 kd_102 rfl rfl (Nat.le_of_ble_eq_true rfl) (fun _ => rfl) h ?_
                intro r20 M21 h
                refine zr_aload_n (pc' := 139) (i := 0) dX12_whatRead_138 rfl rfl rfl ?_
                refine zr_bipush (pc' := 141) dX12_whatRead_139 rfl rfl ?_
                refine zn_callV (pc' := 144) (args := [.inl 41]) (st := []) (st' := fun r22 => [.inl r22]) dX12_whatRead_141 rfl cv_X12_320 ⟨rfl, rfl, by decide, by decide⟩ rfl ps_102 kd_102 rfl rfl (Nat.le_of_ble_eq_true rfl) (fun _ => rfl) h ?_
                intro r22 M23 h
                refine zr_if_ne (tgt := 149) (pc' := 147) dX12_whatRead_144 rfl rfl h.1 (fun hc => ?_) (fun hc => ?_)
                · have h := h.2.1 hc
                  refine zr_aload_n (pc' := 150) (i := 0) dX12_whatRead_149 rfl rfl rfl ?_
                  refine zr_iconst (pc' := 151) dX12_whatRead_150 rfl ?_
                  refine zr_put (pc' := 154) dX12_whatRead_151 rfl ps_102 kd_102 fl_X12_326 kc_12 rfl nf_102_48 rfl (Or.inl rfl) (fun M24 hM1 => ?_)
                  have h := h M24 hM1
                  refine zr_aload_n (pc' := 155) (i := 0) dX12_whatRead_154 rfl rfl rfl ?_
                  refine zr_iload_n (pc' := 156) (i := 1) dX12_whatRead_155 rfl rfl rfl ?_
                  refine zn_callV (pc' := 159) (args := [.inl r1]) (st := []) (st' := fun _ => []) dX12_whatRead_156 rfl cv_X12_297 ⟨rfl, rfl, by decide, by decide⟩ rfl ps_102 kd_102 rfl rfl (Nat.le_of_ble_eq_true rfl) (fun _ => rfl) h ?_
                  intro r25 M26 h
                  refine zr_iconst (pc' := 160) dX12_whatRead_159 rfl ?_
                  exact zr_ireturn dX12_whatRead_160 rfl rfl (Or.inr rfl) (Nat.le_refl _) (Nat.le_refl _) (And.intro rfl h)
                · have h := h.2.2 hc
                  refine zr_iconst (pc' := 148) dX12_whatRead_147 rfl ?_
                  exact zr_ireturn dX12_whatRead_148 rfl rfl (Or.inl rfl) (Nat.le_refl _) (Nat.le_refl _) (And.intro rfl h)
              · have h := h.2.2 hc
                refine zr_iconst (pc' := 123) dX12_whatRead_122 rfl ?_
                exact zr_ireturn dX12_whatRead_123 rfl rfl (Or.inl rfl) (Nat.le_refl _) (Nat.le_refl _) (And.intro rfl h)
          · have h := h.2.2 hc
            refine zr_aload_n (pc' := 81) (i := 0) dX12_whatRead_80 rfl rfl rfl ?_
            refine zr_iconst (pc' := 82) dX12_whatRead_81 rfl ?_
            refine zn_callV (pc' := 85) (args := [.inl 1]) (st := []) (st' := fun r27 => [.inl r27]) dX12_whatRead_82 rfl cv_X12_278 ⟨rfl, rfl, by decide, by decide⟩ rfl ps_102 kd_102 rfl rfl (Nat.le_of_ble_eq_true rfl) (fun _ => rfl) h ?_
            intro r27 M28 h
            exact zr_ireturn dX12_whatRead_85 rfl rfl h.1 (Nat.le_refl _) (Nat.le_refl _) (And.intro rfl h.2)
      · have h := h.2.2 hc
        refine zr_iconst (pc' := 62) dX12_whatRead_61 rfl ?_
        exact zr_ireturn dX12_whatRead_62 rfl rfl (Or.inl rfl) (Nat.le_refl _) (Nat.le_refl _) (And.intro rfl h)
    · have h := h.2.2 hc
      refine zr_aload_n (pc' := 38) (i := 0) dX12_whatRead_37 rfl rfl rfl ?_
      refine zr_get (pc' := 41) dX12_whatRead_38 rfl ps_102 kd_102 fl_X12_317 kc_12 (gv_102_46 _) ?_
      refine zr_bipush (pc' := 43) dX12_whatRead_41 rfl rfl ?_
      refine zr_icmp_ne (tgt := 52) (pc' := 46) dX12_whatRead_43 rfl rfl h.1 (zRd rfl) (fun hc => ?_) (fun hc => ?_)
      · have h := h.2.1 hc
        refine zr_aload_n (pc' := 53) (i := 0) dX12_whatRead_52 rfl rfl rfl ?_
        refine zr_bipush (pc' := 55) dX12_whatRead_53 rfl rfl ?_
        refine zn_callV (pc' := 58) (args := [.inl 40]) (st := []) (st' := fun r29 => [.inl r29]) dX12_whatRead_55 rfl cv_X12_320 ⟨rfl, rfl, by decide, by decide⟩ rfl ps_102 kd_102 rfl rfl (Nat.le_of_ble_eq_true rfl) (fun _ => rfl) h ?_
        intro r29 M30 h
        refine zr_if_ne (tgt := 63) (pc' := 61) dX12_whatRead_58 rfl rfl h.1 (fun hc => ?_) (fun hc => ?_)
        · have h := h.2.1 hc
          refine zr_aload_n (pc' := 64) (i := 0) dX12_whatRead_63 rfl rfl rfl ?_
          refine zr_get (pc' := 67) dX12_whatRead_64 rfl ps_102 kd_102 fl_X12_254 kc_12 (gv_102_19 _) ?_
          refine zr_iconst (pc' := 68) dX12_whatRead_67 rfl ?_
          refine zr_icmp_ne (tgt := 80) (pc' := 71) dX12_whatRead_68 rfl rfl h.1 (zRd rfl) (fun hc => ?_) (fun hc => ?_)
          · have h := h.2.1 hc
            refine zr_aload_n (pc' := 81) (i := 0) dX12_whatRead_80 rfl rfl rfl ?_
            refine zr_iconst (pc' := 82) dX12_whatRead_81 rfl ?_
            refine zn_callV (pc' := 85) (args := [.inl 1]) (st := []) (st' := fun r31 => [.inl r31]) dX12_whatRead_82 rfl cv_X12_278 ⟨rfl, rfl, by decide, by decide⟩ rfl ps_102 kd_102 rfl rfl (Nat.le_of_ble_eq_true rfl) (fun _ => rfl) h ?_
            intro r31 M32 h
            exact zr_ireturn dX12_whatRead_85 rfl rfl h.1 (Nat.le_refl _) (Nat.le_refl _) (And.intro rfl h.2)
          · have h := h.2.2 hc
            refine zr_aload_n (pc' := 72) (i := 0) dX12_whatRead_71 rfl rfl rfl ?_
            refine zr_get (pc' := 75) dX12_whatRead_72 rfl ps_102 kd_102 fl_X12_264 kc_12 (gv_102_20 _) ?_
            refine zr_bipush (pc' := 77) dX12_whatRead_75 rfl rfl ?_
            refine zr_icmp_ge (tgt := 86) (pc' := 80) dX12_whatRead_77 rfl rfl h.1 (zRd rfl) (fun hc => ?_) (fun hc => ?_)
            · have h := h.2.1 hc
              refine zr_aload_n (pc' := 87) (i := 0) dX12_whatRead_86 rfl rfl rfl ?_
              refine zr_get (pc' := 90) dX12_whatRead_87 rfl ps_102 kd_102 fl_X12_60 kc_12 (gv_102_27 _) ?_
              refine zr_iload_n (pc' := 91) (i := 1) dX12_whatRead_90 rfl rfl rfl ?_
              refine zr_aload_n (pc' := 92) (i := 0) dX12_whatRead_91 rfl rfl rfl ?_
              refine zr_get (pc' := 95) dX12_whatRead_92 rfl ps_102 kd_102 fl_X12_264 kc_12 (gv_102_20 _) ?_
              refine zr_bipush (pc' := 97) dX12_whatRead_95 rfl rfl ?_
              refine zr_isub (pc' := 98) dX12_whatRead_97 rfl ?_
              refine zr_iast (pc' := 99) dX12_whatRead_98 rfl ps_118 kd_118 (by decide) h.1.1 h.1.2 (fun M33 hM1 => ?_)
              have h := h.2 M33 hM1
              refine zr_aload_n (pc' := 100) (i := 0) dX12_whatRead_99 rfl rfl rfl ?_
              refine zn_callV (pc' := 103) (args := []) (st := []) (st' := fun _ => []) dX12_whatRead_100 rfl cv_X12_311 ⟨rfl, rfl, by decide, by decide⟩ rfl ps_102 kd_102 rfl rfl (Nat.le_of_ble_eq_true rfl) (fun _ => rfl) h ?_
              intro r34 M35 h
              refine zr_aload_n (pc' := 104) (i := 0) dX12_whatRead_103 rfl rfl rfl ?_
              refine zr_bipush (pc' := 106) dX12_whatRead_104 rfl rfl ?_
              refine zn_callV (pc' := 109) (args := [.inl 44]) (st := []) (st' := fun r36 => [.inl r36]) dX12_whatRead_106 rfl cv_X12_320 ⟨rfl, rfl, by decide, by decide⟩ rfl ps_102 kd_102 rfl rfl (Nat.le_of_ble_eq_true rfl) (fun _ => rfl) h ?_
              intro r36 M37 h
              refine zr_if_eq (tgt := 122) (pc' := 112) dX12_whatRead_109 rfl rfl h.1 (fun hc => ?_) (fun hc => ?_)
              · have h := h.2.1 hc
                refine zr_iconst (pc' := 123) dX12_whatRead_122 rfl ?_
                exact zr_ireturn dX12_whatRead_123 rfl rfl (Or.inl rfl) (Nat.le_refl _) (Nat.le_refl _) (And.intro rfl h)
              · have h := h.2.2 hc
                refine zr_aload_n (pc' := 113) (i := 0) dX12_whatRead_112 rfl rfl rfl ?_
                refine zr_iconst (pc' := 114) dX12_whatRead_113 rfl ?_
                refine zr_bipush (pc' := 116) dX12_whatRead_114 rfl rfl ?_
                refine zn_callV (pc' := 119) (args := [.inl 1, .inl 48]) (st := []) (st' := fun r38 => [.inl r38]) dX12_whatRead_116 rfl cv_X12_323 ⟨rfl, rfl, by decide, by decide⟩ rfl ps_102 kd_102 rfl rfl (Nat.le_of_ble_eq_true rfl) (fun _ => rfl) h ?_
                intro r38 M39 h
                refine zr_if_ne (tgt := 124) (pc' := 122) dX12_whatRead_119 rfl rfl h.1 (fun hc => ?_) (fun hc => ?_)
                · have h := h.2.1 hc
                  refine zr_aload_n (pc' := 125) (i := 0) dX12_whatRead_124 rfl rfl rfl ?_
                  refine zr_get (pc' := 128) dX12_whatRead_125 rfl ps_102 kd_102 fl_X12_54 kc_12 (gv_102_25 _) ?_
                  refine zr_iload_n (pc' := 129) (i := 1) dX12_whatRead_128 rfl rfl rfl ?_
                  refine zr_aload_n (pc' := 130) (i := 0) dX12_whatRead_129 rfl rfl rfl ?_
                  refine zr_get (pc' := 133) dX12_whatRead_130 rfl ps_102 kd_102 fl_X12_264 kc_12 (gv_102_20 _) ?_
                  refine zr_iast (pc' := 134) dX12_whatRead_133 rfl ps_116 kd_116 (by decide) h.1.1 h.1.2 (fun M40 hM1 => ?_)
                  have h := h.2 M40 hM1
                  refine zr_aload_n (pc' := 135) (i := 0) dX12_whatRead_134 rfl rfl rfl ?_
                  refine zn_callV (pc' := 138) (args := []) (st := []) (st' := fun _ => []) dX12_whatRead_135 rfl cv_X12_311 ⟨rfl, rfl, by decide, by decide⟩ rfl ps_102 kd_102 rfl rfl (Nat.le_of_ble_eq_true rfl) (fun _ => rfl) h ?_
                  intro r41 M42 h
                  refine zr_aload_n (pc' := 139) (i := 0) dX12_whatRead_138 rfl rfl rfl ?_
                  refine zr_bipush (pc' := 141) dX12_whatRead_139 rfl rfl ?_
                  refine zn_callV (pc' := 144) (args := [.inl 41]) (st := []) (st' := fun r43 => [.inl r43]) dX12_whatRead_141 rfl cv_X12_320 ⟨rfl, rfl, by decide, by decide⟩ rfl ps_102 kd_102 rfl rfl (Nat.le_of_ble_eq_true rfl) (fun _ => rfl) h ?_
                  intro r43 M44 h
                  refine zr_if_ne (tgt := 149) (pc' := 147) dX12_whatRead_144 rfl rfl h.1 (fun hc => ?_) (fun hc => ?_)
                  · have h := h.2.1 hc
                    refine zr_aload_n (pc' := 150) (i := 0) dX12_whatRead_149 rfl rfl rfl ?_
                    refine zr_iconst (pc' := 151) dX12_whatRead_150 rfl ?_
                    refine zr_put (pc' := 154) dX12_whatRead_151 rfl ps_102 kd_102 fl_X12_326 kc_12 rfl nf_102_48 rfl (Or.inl rfl) (fun M45 hM1 => ?_)
                    have h := h M45 hM1
                    refine zr_aload_n (pc' := 155) (i := 0) dX12_whatRead_154 rfl rfl rfl ?_
                    refine zr_iload_n (pc' := 156) (i := 1) dX12_whatRead_155 rfl rfl rfl ?_
                    refine zn_callV (pc' := 159) (args := [.inl r1]) (st := []) (st' := fun _ => []) dX12_whatRead_156 rfl cv_X12_297 ⟨rfl, rfl, by decide, by decide⟩ rfl ps_102 kd_102 rfl rfl (Nat.le_of_ble_eq_true rfl) (fun _ => rfl) h ?_
                    intro r46 M47 h
                    refine zr_iconst (pc' := 160) dX12_whatRead_159 rfl ?_
                    exact zr_ireturn dX12_whatRead_160 rfl rfl (Or.inr rfl) (Nat.le_refl _) (Nat.le_refl _) (And.intro rfl h)
                  · have h := h.2.2 hc
                    refine zr_iconst (pc' := 148) dX12_whatRead_147 rfl ?_
                    exact zr_ireturn dX12_whatRead_148 rfl rfl (Or.inl rfl) (Nat.le_refl _) (Nat.le_refl _) (And.intro rfl h)
                · have h := h.2.2 hc
                  refine zr_iconst (pc' := 123) dX12_whatRead_122 rfl ?_
                  exact zr_ireturn dX12_whatRead_123 rfl rfl (Or.inl rfl) (Nat.le_refl _) (Nat.le_refl _) (And.intro rfl h)
            · have h := h.2.2 hc
              refine zr_aload_n (pc' := 81) (i := 0) dX12_whatRead_80 rfl rfl rfl ?_
              refine zr_iconst (pc' := 82) dX12_whatRead_81 rfl ?_
              refine zn_callV (pc' := 85) (args := [.inl 1]) (st := []) (st' := fun r48 => [.inl r48]) dX12_whatRead_82 rfl cv_X12_278 ⟨rfl, rfl, by decide, by decide⟩ rfl ps_102 kd_102 rfl rfl (Nat.le_of_ble_eq_true rfl) (fun _ => rfl) h ?_
              intro r48 M49 h
              exact zr_ireturn dX12_whatRead_85 rfl rfl h.1 (Nat.le_refl _) (Nat.le_refl _) (And.intro rfl h.2)
        · have h := h.2.2 hc
          refine zr_iconst (pc' := 62) dX12_whatRead_61 rfl ?_
          exact zr_ireturn dX12_whatRead_62 rfl rfl (Or.inl rfl) (Nat.le_refl _) (Nat.le_refl _) (And.intro rfl h)
      · have h := h.2.2 hc
        refine zr_aload_n (pc' := 47) (i := 0) dX12_whatRead_46 rfl rfl rfl ?_
        refine zr_iconst (pc' := 48) dX12_whatRead_47 rfl ?_
        refine zn_callV (pc' := 51) (args := [.inl 2]) (st := []) (st' := fun r50 => [.inl r50]) dX12_whatRead_48 rfl cv_X12_278 ⟨rfl, rfl, by decide, by decide⟩ rfl ps_102 kd_102 rfl rfl (Nat.le_of_ble_eq_true rfl) (fun _ => rfl) h ?_
        intro r50 M51 h
        exact zr_ireturn dX12_whatRead_51 rfl rfl h.1 (Nat.le_refl _) (Nat.le_refl _) (And.intro rfl h.2)
  · have h := h.2.2 hc
    refine zr_iconst (pc' := 13) dX12_whatRead_12 rfl ?_
    exact zr_ireturn dX12_whatRead_13 rfl rfl (Or.inl rfl) (Nat.le_refl _) (Nat.le_refl _) (And.intro rfl h)
set_option maxRecDepth 20000 in
theorem vcX12_valueRead {E : zE} {M : zM} {Q : Int → zM → Prop}
    (h : (zP E mX12_isSign [.inr (.inr 102), .inl 40] M (fun r1 M2 => ((zR r1) ∧ ((r1 = 0 → (zP E mX12_isSign [.inr (.inr 102), .inl 8] M2 (fun r3 M4 => ((zR r3) ∧ ((r3 = 0 → ((zR (M4 102 19)) ∧ ((¬ (M4 102 19) = 1 → ((zR (M4 102 19)) ∧ ((¬ (M4 102 19) = 1 → (zP E mX12_number [.inr (.inr 102), .inl 0, .inl 99999] M4 (fun r5 M6 => ((zR r5) ∧ ((¬ r5 = 0 → (zP E mX12_grown [.inr (.inr 102), .inl 0, .inl (M6 102 20)] M6 (fun r7 M8 => ((zR r7) ∧ ((0 ≤ r7 → (∀ M9, M9 = zup M8 102 48 0 → (zP E mX12_take [.inr (.inr 102)] M9 (fun r10 M11 => (zP E mX12_done [.inr (.inr 102), .inl r7] M11 (fun r12 M13 => Q 1 M13)))))) ∧ (r7 < 0 → Q 0 M8)))))) ∧ (r5 = 0 → Q 0 M6)))))) ∧ ((M4 102 19) = 1 → ((zR (M4 102 20)) ∧ (((M4 102 20) < 5 → (zP E mX12_number [.inr (.inr 102), .inl 0, .inl 99999] M4 (fun r14 M15 => ((zR r14) ∧ ((¬ r14 = 0 → (zP E mX12_grown [.inr (.inr 102), .inl 0, .inl (M15 102 20)] M15 (fun r16 M17 => ((zR r16) ∧ ((0 ≤ r16 → (∀ M18, M18 = zup M17 102 48 0 → (zP E mX12_take [.inr (.inr 102)] M18 (fun r19 M20 => (zP E mX12_done [.inr (.inr 102), .inl r16] M20 (fun r21 M22 => Q 1 M22)))))) ∧ (r16 < 0 → Q 0 M17)))))) ∧ (r14 = 0 → Q 0 M15)))))) ∧ (5 ≤ (M4 102 20) → ((zR (M4 102 20)) ∧ ((11 < (M4 102 20) → (zP E mX12_number [.inr (.inr 102), .inl 0, .inl 99999] M4 (fun r23 M24 => ((zR r23) ∧ ((¬ r23 = 0 → (zP E mX12_grown [.inr (.inr 102), .inl 0, .inl (M24 102 20)] M24 (fun r25 M26 => ((zR r25) ∧ ((0 ≤ r25 → (∀ M27, M27 = zup M26 102 48 0 → (zP E mX12_take [.inr (.inr 102)] M27 (fun r28 M29 => (zP E mX12_done [.inr (.inr 102), .inl r25] M29 (fun r30 M31 => Q 1 M31)))))) ∧ (r25 < 0 → Q 0 M26)))))) ∧ (r23 = 0 → Q 0 M24)))))) ∧ ((M4 102 20) ≤ 11 → (zP E mX12_whatRead [.inr (.inr 102)] M4 (fun r32 M33 => ((r32 = 0 ∨ r32 = 1) ∧ Q r32 M33))))))))))))) ∧ ((M4 102 19) = 1 → ((zR (M4 102 20)) ∧ ((¬ (M4 102 20) = 4 → ((zR (M4 102 19)) ∧ ((¬ (M4 102 19) = 1 → (zP E mX12_number [.inr (.inr 102), .inl 0, .inl 99999] M4 (fun r34 M35 => ((zR r34) ∧ ((¬ r34 = 0 → (zP E mX12_grown [.inr (.inr 102), .inl 0, .inl (M35 102 20)] M35 (fun r36 M37 => ((zR r36) ∧ ((0 ≤ r36 → (∀ M38, M38 = zup M37 102 48 0 → (zP E mX12_take [.inr (.inr 102)] M38 (fun r39 M40 => (zP E mX12_done [.inr (.inr 102), .inl r36] M40 (fun r41 M42 => Q 1 M42)))))) ∧ (r36 < 0 → Q 0 M37)))))) ∧ (r34 = 0 → Q 0 M35)))))) ∧ ((M4 102 19) = 1 → ((zR (M4 102 20)) ∧ (((M4 102 20) < 5 → (zP E mX12_number [.inr (.inr 102), .inl 0, .inl 99999] M4 (fun r43 M44 => ((zR r43) ∧ ((¬ r43 = 0 → (zP E mX12_grown [.inr (.inr 102), .inl 0, .inl (M44 102 20)] M44 (fun r45 M46 => ((zR r45) ∧ ((0 ≤ r45 → (∀ M47, M47 = zup M46 102 48 0 → (zP E mX12_take [.inr (.inr 102)] M47 (fun r48 M49 => (zP E mX12_done [.inr (.inr 102), .inl r45] M49 (fun r50 M51 => Q 1 M51)))))) ∧ (r45 < 0 → Q 0 M46)))))) ∧ (r43 = 0 → Q 0 M44)))))) ∧ (5 ≤ (M4 102 20) → ((zR (M4 102 20)) ∧ ((11 < (M4 102 20) → (zP E mX12_number [.inr (.inr 102), .inl 0, .inl 99999] M4 (fun r52 M53 => ((zR r52) ∧ ((¬ r52 = 0 → (zP E mX12_grown [.inr (.inr 102), .inl 0, .inl (M53 102 20)] M53 (fun r54 M55 => ((zR r54) ∧ ((0 ≤ r54 → (∀ M56, M56 = zup M55 102 48 0 → (zP E mX12_take [.inr (.inr 102)] M56 (fun r57 M58 => (zP E mX12_done [.inr (.inr 102), .inl r54] M58 (fun r59 M60 => Q 1 M60)))))) ∧ (r54 < 0 → Q 0 M55)))))) ∧ (r52 = 0 → Q 0 M53)))))) ∧ ((M4 102 20) ≤ 11 → (zP E mX12_whatRead [.inr (.inr 102)] M4 (fun r61 M62 => ((r61 = 0 ∨ r61 = 1) ∧ Q r61 M62))))))))))))) ∧ ((M4 102 20) = 4 → ((zR (M4 102 49)) ∧ (((M4 102 49) = 0 → ((zR (M4 102 19)) ∧ ((¬ (M4 102 19) = 1 → (zP E mX12_number [.inr (.inr 102), .inl 0, .inl 99999] M4 (fun r63 M64 => ((zR r63) ∧ ((¬ r63 = 0 → (zP E mX12_grown [.inr (.inr 102), .inl 0, .inl (M64 102 20)] M64 (fun r65 M66 => ((zR r65) ∧ ((0 ≤ r65 → (∀ M67, M67 = zup M66 102 48 0 → (zP E mX12_take [.inr (.inr 102)] M67 (fun r68 M69 => (zP E mX12_done [.inr (.inr 102), .inl r65] M69 (fun r70 M71 => Q 1 M71)))))) ∧ (r65 < 0 → Q 0 M66)))))) ∧ (r63 = 0 → Q 0 M64)))))) ∧ ((M4 102 19) = 1 → ((zR (M4 102 20)) ∧ (((M4 102 20) < 5 → (zP E mX12_number [.inr (.inr 102), .inl 0, .inl 99999] M4 (fun r72 M73 => ((zR r72) ∧ ((¬ r72 = 0 → (zP E mX12_grown [.inr (.inr 102), .inl 0, .inl (M73 102 20)] M73 (fun r74 M75 => ((zR r74) ∧ ((0 ≤ r74 → (∀ M76, M76 = zup M75 102 48 0 → (zP E mX12_take [.inr (.inr 102)] M76 (fun r77 M78 => (zP E mX12_done [.inr (.inr 102), .inl r74] M78 (fun r79 M80 => Q 1 M80)))))) ∧ (r74 < 0 → Q 0 M75)))))) ∧ (r72 = 0 → Q 0 M73)))))) ∧ (5 ≤ (M4 102 20) → ((zR (M4 102 20)) ∧ ((11 < (M4 102 20) → (zP E mX12_number [.inr (.inr 102), .inl 0, .inl 99999] M4 (fun r81 M82 => ((zR r81) ∧ ((¬ r81 = 0 → (zP E mX12_grown [.inr (.inr 102), .inl 0, .inl (M82 102 20)] M82 (fun r83 M84 => ((zR r83) ∧ ((0 ≤ r83 → (∀ M85, M85 = zup M84 102 48 0 → (zP E mX12_take [.inr (.inr 102)] M85 (fun r86 M87 => (zP E mX12_done [.inr (.inr 102), .inl r83] M87 (fun r88 M89 => Q 1 M89)))))) ∧ (r83 < 0 → Q 0 M84)))))) ∧ (r81 = 0 → Q 0 M82)))))) ∧ ((M4 102 20) ≤ 11 → (zP E mX12_whatRead [.inr (.inr 102)] M4 (fun r90 M91 => ((r90 = 0 ∨ r90 = 1) ∧ Q r90 M91))))))))))))) ∧ (¬ (M4 102 49) = 0 → (zP E mX12_ofOne [.inr (.inr 102), .inl 12] M4 (fun r92 M93 => ((r92 = 0 ∨ r92 = 1) ∧ Q r92 M93))))))))))))) ∧ (¬ r3 = 0 → (zP E mX12_ofOne [.inr (.inr 102), .inl 11] M4 (fun r94 M95 => ((r94 = 0 ∨ r94 = 1) ∧ Q r94 M95))))))))) ∧ (¬ r1 = 0 → ((zR (M2 102 46)) ∧ ((¬ (M2 102 46) = 8 → (0 ≤ M2 102 46 ∧ M2 102 46 < 8 ∧ (M2 102 47 = 0 ∨ M2 102 47 = 1)) ∧ (∀ M96, M96 = zup M2 126 ((M2 102 46).toNat) (M2 102 47) → (∀ M97, M97 = zup M96 102 46 ((M96 102 46) + 1) → (zP E mX12_waitFor [.inr (.inr 102), .inl 100, .inl (-1)] M97 (fun r98 M99 => (∀ M100, M100 = zup M99 102 47 0 → (∀ M101, M101 = zup M100 102 49 1 → (zP E mX12_take [.inr (.inr 102)] M101 (fun r102 M103 => Q 1 M103))))))))) ∧ ((M2 102 46) = 8 → (zP E mX12_wrong [.inr (.inr 102), .inl 2] M2 (fun r104 M105 => ((r104 = 0 ∨ r104 = 1) ∧ Q r104 M105))))))))))))
    : zP E mX12_valueRead [.inr (.inr 102)] M Q := by
  refine zP_of (by decide +kernel) rfl (Nat.le_of_ble_eq_true rfl) ?_
  show zA E zNN (0, 0) mX12_valueRead 0 [(0, .inr (.inr 102))] [] M (zQ Q)
  refine zr_aload_n (pc' := 1) (i := 0) dX12_valueRead_0 rfl rfl rfl ?_
  refine zr_bipush (pc' := 3) dX12_valueRead_1 rfl rfl ?_
  refine zn_callV (pc' := 6) (args := [.inl 40]) (st := []) (st' := fun r1 => [.inl r1]) dX12_valueRead_3 rfl cv_X12_314 ⟨rfl, rfl, by decide, by decide⟩ rfl ps_102 kd_102 rfl rfl (Nat.le_of_ble_eq_true rfl) (fun _ => rfl) h ?_
  intro r1 M2 h
  refine zr_if_eq (tgt := 70) (pc' := 9) dX12_valueRead_6 rfl rfl h.1 (fun hc => ?_) (fun hc => ?_)
  · have h := h.2.1 hc
    refine zr_aload_n (pc' := 71) (i := 0) dX12_valueRead_70 rfl rfl rfl ?_
    refine zr_bipush (pc' := 73) dX12_valueRead_71 rfl rfl ?_
    refine zn_callV (pc' := 76) (args := [.inl 8]) (st := []) (st' := fun r3 => [.inl r3]) dX12_valueRead_73 rfl cv_X12_314 ⟨rfl, rfl, by decide, by decide⟩ rfl ps_102 kd_102 rfl rfl (Nat.le_of_ble_eq_true rfl) (fun _ => rfl) h ?_
    intro r3 M4 h
    refine zr_if_eq (tgt := 86) (pc' := 79) dX12_valueRead_76 rfl rfl h.1 (fun hc => ?_) (fun hc => ?_)
    · have h := h.2.1 hc
      refine zr_aload_n (pc' := 87) (i := 0) dX12_valueRead_86 rfl rfl rfl ?_
      refine zr_get (pc' := 90) dX12_valueRead_87 rfl ps_102 kd_102 fl_X12_254 kc_12 (gv_102_19 _) ?_
      refine zr_iconst (pc' := 91) dX12_valueRead_90 rfl ?_
      refine zr_icmp_ne (tgt := 116) (pc' := 94) dX12_valueRead_91 rfl rfl h.1 (zRd rfl) (fun hc => ?_) (fun hc => ?_)
      · have h := h.2.1 hc
        refine zr_aload_n (pc' := 117) (i := 0) dX12_valueRead_116 rfl rfl rfl ?_
        refine zr_get (pc' := 120) dX12_valueRead_117 rfl ps_102 kd_102 fl_X12_254 kc_12 (gv_102_19 _) ?_
        refine zr_iconst (pc' := 121) dX12_valueRead_120 rfl ?_
        refine zr_icmp_ne (tgt := 146) (pc' := 124) dX12_valueRead_121 rfl rfl h.1 (zRd rfl) (fun hc => ?_) (fun hc => ?_)
        · have h := h.2.1 hc
          refine zr_aload_n (pc' := 147) (i := 0) dX12_valueRead_146 rfl rfl rfl ?_
          refine zr_iconst (pc' := 148) dX12_valueRead_147 rfl ?_
          refine zr_ldcw (pc' := 151) (x := 99999) dX12_valueRead_148 rfl ci_X12_270 ?_
          refine zn_callV (pc' := 154) (args := [.inl 0, .inl 99999]) (st := []) (st' := fun r5 => [.inl r5]) dX12_valueRead_151 rfl cv_X12_323 ⟨rfl, rfl, by decide, by decide⟩ rfl ps_102 kd_102 rfl rfl (Nat.le_of_ble_eq_true rfl) (fun _ => rfl) h ?_
          intro r5 M6 h
          refine zr_if_ne (tgt := 159) (pc' := 157) dX12_valueRead_154 rfl rfl h.1 (fun hc => ?_) (fun hc => ?_)
          · have h := h.2.1 hc
            refine zr_aload_n (pc' := 160) (i := 0) dX12_valueRead_159 rfl rfl rfl ?_
            refine zr_iconst (pc' := 161) dX12_valueRead_160 rfl ?_
            refine zr_aload_n (pc' := 162) (i := 0) dX12_valueRead_161 rfl rfl rfl ?_
            refine zr_get (pc' := 165) dX12_valueRead_162 rfl ps_102 kd_102 fl_X12_264 kc_12 (gv_102_20 _) ?_
            refine zn_callV (pc' := 168) (args := [.inl 0, .inl (M6 102 20)]) (st := []) (st' := fun r7 => [.inl r7]) dX12_valueRead_165 rfl cv_X12_300 ⟨rfl, rfl, by decide, by decide⟩ rfl ps_102 kd_102 rfl rfl (Nat.le_of_ble_eq_true rfl) (fun _ => rfl) h ?_
            intro r7 M8 h
            refine zr_istore_n (pc' := 169) (i := 1) (al' := [(1, .inl r7), (0, .inr (.inr 102))]) dX12_valueRead_168 rfl rfl (by decide) rfl ?_
            refine zr_iload_n (pc' := 170) (i := 1) dX12_valueRead_169 rfl rfl rfl ?_
            refine zr_if_ge (tgt := 175) (pc' := 173) dX12_valueRead_170 rfl rfl h.1 (fun hc => ?_) (fun hc => ?_)
            · have h := h.2.1 hc
              refine zr_aload_n (pc' := 176) (i := 0) dX12_valueRead_175 rfl rfl rfl ?_
              refine zr_iconst (pc' := 177) dX12_valueRead_176 rfl ?_
              refine zr_put (pc' := 180) dX12_valueRead_177 rfl ps_102 kd_102 fl_X12_326 kc_12 rfl nf_102_48 rfl (Or.inl rfl) (fun M9 hM1 => ?_)
              have h := h M9 hM1
              refine zr_aload_n (pc' := 181) (i := 0) dX12_valueRead_180 rfl rfl rfl ?_
              refine zn_callV (pc' := 184) (args := []) (st := []) (st' := fun _ => []) dX12_valueRead_181 rfl cv_X12_311 ⟨rfl, rfl, by decide, by decide⟩ rfl ps_102 kd_102 rfl rfl (Nat.le_of_ble_eq_true rfl) (fun _ => rfl) h ?_
              intro r10 M11 h
              refine zr_aload_n (pc' := 185) (i := 0) dX12_valueRead_184 rfl rfl rfl ?_
              refine zr_iload_n (pc' := 186) (i := 1) dX12_valueRead_185 rfl rfl rfl ?_
              refine zn_callV (pc' := 189) (args := [.inl r7]) (st := []) (st' := fun _ => []) dX12_valueRead_186 rfl cv_X12_297 ⟨rfl, rfl, by decide, by decide⟩ rfl ps_102 kd_102 rfl rfl (Nat.le_of_ble_eq_true rfl) (fun _ => rfl) h ?_
              intro r12 M13 h
              refine zr_iconst (pc' := 190) dX12_valueRead_189 rfl ?_
              exact zr_ireturn dX12_valueRead_190 rfl rfl (Or.inr rfl) (Nat.le_refl _) (Nat.le_refl _) (And.intro rfl h)
            · have h := h.2.2 hc
              refine zr_iconst (pc' := 174) dX12_valueRead_173 rfl ?_
              exact zr_ireturn dX12_valueRead_174 rfl rfl (Or.inl rfl) (Nat.le_refl _) (Nat.le_refl _) (And.intro rfl h)
          · have h := h.2.2 hc
            refine zr_iconst (pc' := 158) dX12_valueRead_157 rfl ?_
            exact zr_ireturn dX12_valueRead_158 rfl rfl (Or.inl rfl) (Nat.le_refl _) (Nat.le_refl _) (And.intro rfl h)
        · have h := h.2.2 hc
          refine zr_aload_n (pc' := 125) (i := 0) dX12_valueRead_124 rfl rfl rfl ?_
          refine zr_get (pc' := 128) dX12_valueRead_125 rfl ps_102 kd_102 fl_X12_264 kc_12 (gv_102_20 _) ?_
          refine zr_iconst (pc' := 129) dX12_valueRead_128 rfl ?_
          refine zr_icmp_lt (tgt := 146) (pc' := 132) dX12_valueRead_129 rfl rfl h.1 (zRd rfl) (fun hc => ?_) (fun hc => ?_)
          · have h := h.2.1 hc
            refine zr_aload_n (pc' := 147) (i := 0) dX12_valueRead_146 rfl rfl rfl ?_
            refine zr_iconst (pc' := 148) dX12_valueRead_147 rfl ?_
            refine zr_ldcw (pc' := 151) (x := 99999) dX12_valueRead_148 rfl ci_X12_270 ?_
            refine zn_callV (pc' := 154) (args := [.inl 0, .inl 99999]) (st := []) (st' := fun r14 => [.inl r14]) dX12_valueRead_151 rfl cv_X12_323 ⟨rfl, rfl, by decide, by decide⟩ rfl ps_102 kd_102 rfl rfl (Nat.le_of_ble_eq_true rfl) (fun _ => rfl) h ?_
            intro r14 M15 h
            refine zr_if_ne (tgt := 159) (pc' := 157) dX12_valueRead_154 rfl rfl h.1 (fun hc => ?_) (fun hc => ?_)
            · have h := h.2.1 hc
              refine zr_aload_n (pc' := 160) (i := 0) dX12_valueRead_159 rfl rfl rfl ?_
              refine zr_iconst (pc' := 161) dX12_valueRead_160 rfl ?_
              refine zr_aload_n (pc' := 162) (i := 0) dX12_valueRead_161 rfl rfl rfl ?_
              refine zr_get (pc' := 165) dX12_valueRead_162 rfl ps_102 kd_102 fl_X12_264 kc_12 (gv_102_20 _) ?_
              refine zn_callV (pc' := 168) (args := [.inl 0, .inl (M15 102 20)]) (st := []) (st' := fun r16 => [.inl r16]) dX12_valueRead_165 rfl cv_X12_300 ⟨rfl, rfl, by decide, by decide⟩ rfl ps_102 kd_102 rfl rfl (Nat.le_of_ble_eq_true rfl) (fun _ => rfl) h ?_
              intro r16 M17 h
              refine zr_istore_n (pc' := 169) (i := 1) (al' := [(1, .inl r16), (0, .inr (.inr 102))]) dX12_valueRead_168 rfl rfl (by decide) rfl ?_
              refine zr_iload_n (pc' := 170) (i := 1) dX12_valueRead_169 rfl rfl rfl ?_
              refine zr_if_ge (tgt := 175) (pc' := 173) dX12_valueRead_170 rfl rfl h.1 (fun hc => ?_) (fun hc => ?_)
              · have h := h.2.1 hc
                refine zr_aload_n (pc' := 176) (i := 0) dX12_valueRead_175 rfl rfl rfl ?_
                refine zr_iconst (pc' := 177) dX12_valueRead_176 rfl ?_
                refine zr_put (pc' := 180) dX12_valueRead_177 rfl ps_102 kd_102 fl_X12_326 kc_12 rfl nf_102_48 rfl (Or.inl rfl) (fun M18 hM1 => ?_)
                have h := h M18 hM1
                refine zr_aload_n (pc' := 181) (i := 0) dX12_valueRead_180 rfl rfl rfl ?_
                refine zn_callV (pc' := 184) (args := []) (st := []) (st' := fun _ => []) dX12_valueRead_181 rfl cv_X12_311 ⟨rfl, rfl, by decide, by decide⟩ rfl ps_102 kd_102 rfl rfl (Nat.le_of_ble_eq_true rfl) (fun _ => rfl) h ?_
                intro r19 M20 h
                refine zr_aload_n (pc' := 185) (i := 0) dX12_valueRead_184 rfl rfl rfl ?_
                refine zr_iload_n (pc' := 186) (i := 1) dX12_valueRead_185 rfl rfl rfl ?_
                refine zn_callV (pc' := 189) (args := [.inl r16]) (st := []) (st' := fun _ => []) dX12_valueRead_186 rfl cv_X12_297 ⟨rfl, rfl, by decide, by decide⟩ rfl ps_102 kd_102 rfl rfl (Nat.le_of_ble_eq_true rfl) (fun _ => rfl) h ?_
                intro r21 M22 h
                refine zr_iconst (pc' := 190) dX12_valueRead_189 rfl ?_
                exact zr_ireturn dX12_valueRead_190 rfl rfl (Or.inr rfl) (Nat.le_refl _) (Nat.le_refl _) (And.intro rfl h)
              · have h := h.2.2 hc
                refine zr_iconst (pc' := 174) dX12_valueRead_173 rfl ?_
                exact zr_ireturn dX12_valueRead_174 rfl rfl (Or.inl rfl) (Nat.le_refl _) (Nat.le_refl _) (And.intro rfl h)
            · have h := h.2.2 hc
              refine zr_iconst (pc' := 158) dX12_valueRead_157 rfl ?_
              exact zr_ireturn dX12_valueRead_158 rfl rfl (Or.inl rfl) (Nat.le_refl _) (Nat.le_refl _) (And.intro rfl h)
          · have h := h.2.2 hc
            refine zr_aload_n (pc' := 133) (i := 0) dX12_valueRead_132 rfl rfl rfl ?_
            refine zr_get (pc' := 136) dX12_valueRead_133 rfl ps_102 kd_102 fl_X12_264 kc_12 (gv_102_20 _) ?_
            refine zr_bipush (pc' := 138) dX12_valueRead_136 rfl rfl ?_
            refine zr_icmp_gt (tgt := 146) (pc' := 141) dX12_valueRead_138 rfl rfl h.1 (zRd rfl) (fun hc => ?_) (fun hc => ?_)
            · have h := h.2.1 hc
              refine zr_aload_n (pc' := 147) (i := 0) dX12_valueRead_146 rfl rfl rfl ?_
              refine zr_iconst (pc' := 148) dX12_valueRead_147 rfl ?_
              refine zr_ldcw (pc' := 151) (x := 99999) dX12_valueRead_148 rfl ci_X12_270 ?_
              refine zn_callV (pc' := 154) (args := [.inl 0, .inl 99999]) (st := []) (st' := fun r23 => [.inl r23]) dX12_valueRead_151 rfl cv_X12_323 ⟨rfl, rfl, by decide, by decide⟩ rfl ps_102 kd_102 rfl rfl (Nat.le_of_ble_eq_true rfl) (fun _ => rfl) h ?_
              intro r23 M24 h
              refine zr_if_ne (tgt := 159) (pc' := 157) dX12_valueRead_154 rfl rfl h.1 (fun hc => ?_) (fun hc => ?_)
              · have h := h.2.1 hc
                refine zr_aload_n (pc' := 160) (i := 0) dX12_valueRead_159 rfl rfl rfl ?_
                refine zr_iconst (pc' := 161) dX12_valueRead_160 rfl ?_
                refine zr_aload_n (pc' := 162) (i := 0) dX12_valueRead_161 rfl rfl rfl ?_
                refine zr_get (pc' := 165) dX12_valueRead_162 rfl ps_102 kd_102 fl_X12_264 kc_12 (gv_102_20 _) ?_
                refine zn_callV (pc' := 168) (args := [.inl 0, .inl (M24 102 20)]) (st := []) (st' := fun r25 => [.inl r25]) dX12_valueRead_165 rfl cv_X12_300 ⟨rfl, rfl, by decide, by decide⟩ rfl ps_102 kd_102 rfl rfl (Nat.le_of_ble_eq_true rfl) (fun _ => rfl) h ?_
                intro r25 M26 h
                refine zr_istore_n (pc' := 169) (i := 1) (al' := [(1, .inl r25), (0, .inr (.inr 102))]) dX12_valueRead_168 rfl rfl (by decide) rfl ?_
                refine zr_iload_n (pc' := 170) (i := 1) dX12_valueRead_169 rfl rfl rfl ?_
                refine zr_if_ge (tgt := 175) (pc' := 173) dX12_valueRead_170 rfl rfl h.1 (fun hc => ?_) (fun hc => ?_)
                · have h := h.2.1 hc
                  refine zr_aload_n (pc' := 176) (i := 0) dX12_valueRead_175 rfl rfl rfl ?_
                  refine zr_iconst (pc' := 177) dX12_valueRead_176 rfl ?_
                  refine zr_put (pc' := 180) dX12_valueRead_177 rfl ps_102 kd_102 fl_X12_326 kc_12 rfl nf_102_48 rfl (Or.inl rfl) (fun M27 hM1 => ?_)
                  have h := h M27 hM1
                  refine zr_aload_n (pc' := 181) (i := 0) dX12_valueRead_180 rfl rfl rfl ?_
                  refine zn_callV (pc' := 184) (args := []) (st := []) (st' := fun _ => []) dX12_valueRead_181 rfl cv_X12_311 ⟨rfl, rfl, by decide, by decide⟩ rfl ps_102 kd_102 rfl rfl (Nat.le_of_ble_eq_true rfl) (fun _ => rfl) h ?_
                  intro r28 M29 h
                  refine zr_aload_n (pc' := 185) (i := 0) dX12_valueRead_184 rfl rfl rfl ?_
                  refine zr_iload_n (pc' := 186) (i := 1) dX12_valueRead_185 rfl rfl rfl ?_
                  refine zn_callV (pc' := 189) (args := [.inl r25]) (st := []) (st' := fun _ => []) dX12_valueRead_186 rfl cv_X12_297 ⟨rfl, rfl, by decide, by decide⟩ rfl ps_102 kd_102 rfl rfl (Nat.le_of_ble_eq_true rfl) (fun _ => rfl) h ?_
                  intro r30 M31 h
                  refine zr_iconst (pc' := 190) dX12_valueRead_189 rfl ?_
                  exact zr_ireturn dX12_valueRead_190 rfl rfl (Or.inr rfl) (Nat.le_refl _) (Nat.le_refl _) (And.intro rfl h)
                · have h := h.2.2 hc
                  refine zr_iconst (pc' := 174) dX12_valueRead_173 rfl ?_
                  exact zr_ireturn dX12_valueRead_174 rfl rfl (Or.inl rfl) (Nat.le_refl _) (Nat.le_refl _) (And.intro rfl h)
              · have h := h.2.2 hc
                refine zr_iconst (pc' := 158) dX12_valueRead_157 rfl ?_
                exact zr_ireturn dX12_valueRead_158 rfl rfl (Or.inl rfl) (Nat.le_refl _) (Nat.le_refl _) (And.intro rfl h)
            · have h := h.2.2 hc
              refine zr_aload_n (pc' := 142) (i := 0) dX12_valueRead_141 rfl rfl rfl ?_
              refine zn_callV (pc' := 145) (args := []) (st := []) (st' := fun r32 => [.inl r32]) dX12_valueRead_142 rfl cv_X12_335 ⟨rfl, rfl, by decide, by decide⟩ rfl ps_102 kd_102 rfl rfl (Nat.le_of_ble_eq_true rfl) (fun _ => rfl) h ?_
              intro r32 M33 h
              exact zr_ireturn dX12_valueRead_145 rfl rfl h.1 (Nat.le_refl _) (Nat.le_refl _) (And.intro rfl h.2)
      · have h := h.2.2 hc
        refine zr_aload_n (pc' := 95) (i := 0) dX12_valueRead_94 rfl rfl rfl ?_
        refine zr_get (pc' := 98) dX12_valueRead_95 rfl ps_102 kd_102 fl_X12_264 kc_12 (gv_102_20 _) ?_
        refine zr_iconst (pc' := 99) dX12_valueRead_98 rfl ?_
        refine zr_icmp_ne (tgt := 116) (pc' := 102) dX12_valueRead_99 rfl rfl h.1 (zRd rfl) (fun hc => ?_) (fun hc => ?_)
        · have h := h.2.1 hc
          refine zr_aload_n (pc' := 117) (i := 0) dX12_valueRead_116 rfl rfl rfl ?_
          refine zr_get (pc' := 120) dX12_valueRead_117 rfl ps_102 kd_102 fl_X12_254 kc_12 (gv_102_19 _) ?_
          refine zr_iconst (pc' := 121) dX12_valueRead_120 rfl ?_
          refine zr_icmp_ne (tgt := 146) (pc' := 124) dX12_valueRead_121 rfl rfl h.1 (zRd rfl) (fun hc => ?_) (fun hc => ?_)
          · have h := h.2.1 hc
            refine zr_aload_n (pc' := 147) (i := 0) dX12_valueRead_146 rfl rfl rfl ?_
            refine zr_iconst (pc' := 148) dX12_valueRead_147 rfl ?_
            refine zr_ldcw (pc' := 151) (x := 99999) dX12_valueRead_148 rfl ci_X12_270 ?_
            refine zn_callV (pc' := 154) (args := [.inl 0, .inl 99999]) (st := []) (st' := fun r34 => [.inl r34]) dX12_valueRead_151 rfl cv_X12_323 ⟨rfl, rfl, by decide, by decide⟩ rfl ps_102 kd_102 rfl rfl (Nat.le_of_ble_eq_true rfl) (fun _ => rfl) h ?_
            intro r34 M35 h
            refine zr_if_ne (tgt := 159) (pc' := 157) dX12_valueRead_154 rfl rfl h.1 (fun hc => ?_) (fun hc => ?_)
            · have h := h.2.1 hc
              refine zr_aload_n (pc' := 160) (i := 0) dX12_valueRead_159 rfl rfl rfl ?_
              refine zr_iconst (pc' := 161) dX12_valueRead_160 rfl ?_
              refine zr_aload_n (pc' := 162) (i := 0) dX12_valueRead_161 rfl rfl rfl ?_
              refine zr_get (pc' := 165) dX12_valueRead_162 rfl ps_102 kd_102 fl_X12_264 kc_12 (gv_102_20 _) ?_
              refine zn_callV (pc' := 168) (args := [.inl 0, .inl (M35 102 20)]) (st := []) (st' := fun r36 => [.inl r36]) dX12_valueRead_165 rfl cv_X12_300 ⟨rfl, rfl, by decide, by decide⟩ rfl ps_102 kd_102 rfl rfl (Nat.le_of_ble_eq_true rfl) (fun _ => rfl) h ?_
              intro r36 M37 h
              refine zr_istore_n (pc' := 169) (i := 1) (al' := [(1, .inl r36), (0, .inr (.inr 102))]) dX12_valueRead_168 rfl rfl (by decide) rfl ?_
              refine zr_iload_n (pc' := 170) (i := 1) dX12_valueRead_169 rfl rfl rfl ?_
              refine zr_if_ge (tgt := 175) (pc' := 173) dX12_valueRead_170 rfl rfl h.1 (fun hc => ?_) (fun hc => ?_)
              · have h := h.2.1 hc
                refine zr_aload_n (pc' := 176) (i := 0) dX12_valueRead_175 rfl rfl rfl ?_
                refine zr_iconst (pc' := 177) dX12_valueRead_176 rfl ?_
                refine zr_put (pc' := 180) dX12_valueRead_177 rfl ps_102 kd_102 fl_X12_326 kc_12 rfl nf_102_48 rfl (Or.inl rfl) (fun M38 hM1 => ?_)
                have h := h M38 hM1
                refine zr_aload_n (pc' := 181) (i := 0) dX12_valueRead_180 rfl rfl rfl ?_
                refine zn_callV (pc' := 184) (args := []) (st := []) (st' := fun _ => []) dX12_valueRead_181 rfl cv_X12_311 ⟨rfl, rfl, by decide, by decide⟩ rfl ps_102 kd_102 rfl rfl (Nat.le_of_ble_eq_true rfl) (fun _ => rfl) h ?_
                intro r39 M40 h
                refine zr_aload_n (pc' := 185) (i := 0) dX12_valueRead_184 rfl rfl rfl ?_
                refine zr_iload_n (pc' := 186) (i := 1) dX12_valueRead_185 rfl rfl rfl ?_
                refine zn_callV (pc' := 189) (args := [.inl r36]) (st := []) (st' := fun _ => []) dX12_valueRead_186 rfl cv_X12_297 ⟨rfl, rfl, by decide, by decide⟩ rfl ps_102 kd_102 rfl rfl (Nat.le_of_ble_eq_true rfl) (fun _ => rfl) h ?_
                intro r41 M42 h
                refine zr_iconst (pc' := 190) dX12_valueRead_189 rfl ?_
                exact zr_ireturn dX12_valueRead_190 rfl rfl (Or.inr rfl) (Nat.le_refl _) (Nat.le_refl _) (And.intro rfl h)
              · have h := h.2.2 hc
                refine zr_iconst (pc' := 174) dX12_valueRead_173 rfl ?_
                exact zr_ireturn dX12_valueRead_174 rfl rfl (Or.inl rfl) (Nat.le_refl _) (Nat.le_refl _) (And.intro rfl h)
            · have h := h.2.2 hc
              refine zr_iconst (pc' := 158) dX12_valueRead_157 rfl ?_
              exact zr_ireturn dX12_valueRead_158 rfl rfl (Or.inl rfl) (Nat.le_refl _) (Nat.le_refl _) (And.intro rfl h)
          · have h := h.2.2 hc
            refine zr_aload_n (pc' := 125) (i := 0) dX12_valueRead_124 rfl rfl rfl ?_
            refine zr_get (pc' := 128) dX12_valueRead_125 rfl ps_102 kd_102 fl_X12_264 kc_12 (gv_102_20 _) ?_
            refine zr_iconst (pc' := 129) dX12_valueRead_128 rfl ?_
            refine zr_icmp_lt (tgt := 146) (pc' := 132) dX12_valueRead_129 rfl rfl h.1 (zRd rfl) (fun hc => ?_) (fun hc => ?_)
            · have h := h.2.1 hc
              refine zr_aload_n (pc' := 147) (i := 0) dX12_valueRead_146 rfl rfl rfl ?_
              refine zr_iconst (pc' := 148) dX12_valueRead_147 rfl ?_
              refine zr_ldcw (pc' := 151) (x := 99999) dX12_valueRead_148 rfl ci_X12_270 ?_
              refine zn_callV (pc' := 154) (args := [.inl 0, .inl 99999]) (st := []) (st' := fun r43 => [.inl r43]) dX12_valueRead_151 rfl cv_X12_323 ⟨rfl, rfl, by decide, by decide⟩ rfl ps_102 kd_102 rfl rfl (Nat.le_of_ble_eq_true rfl) (fun _ => rfl) h ?_
              intro r43 M44 h
              refine zr_if_ne (tgt := 159) (pc' := 157) dX12_valueRead_154 rfl rfl h.1 (fun hc => ?_) (fun hc => ?_)
              · have h := h.2.1 hc
                refine zr_aload_n (pc' := 160) (i := 0) dX12_valueRead_159 rfl rfl rfl ?_
                refine zr_iconst (pc' := 161) dX12_valueRead_160 rfl ?_
                refine zr_aload_n (pc' := 162) (i := 0) dX12_valueRead_161 rfl rfl rfl ?_
                refine zr_get (pc' := 165) dX12_valueRead_162 rfl ps_102 kd_102 fl_X12_264 kc_12 (gv_102_20 _) ?_
                refine zn_callV (pc' := 168) (args := [.inl 0, .inl (M44 102 20)]) (st := []) (st' := fun r45 => [.inl r45]) dX12_valueRead_165 rfl cv_X12_300 ⟨rfl, rfl, by decide, by decide⟩ rfl ps_102 kd_102 rfl rfl (Nat.le_of_ble_eq_true rfl) (fun _ => rfl) h ?_
                intro r45 M46 h
                refine zr_istore_n (pc' := 169) (i := 1) (al' := [(1, .inl r45), (0, .inr (.inr 102))]) dX12_valueRead_168 rfl rfl (by decide) rfl ?_
                refine zr_iload_n (pc' := 170) (i := 1) dX12_valueRead_169 rfl rfl rfl ?_
                refine zr_if_ge (tgt := 175) (pc' := 173) dX12_valueRead_170 rfl rfl h.1 (fun hc => ?_) (fun hc => ?_)
                · have h := h.2.1 hc
                  refine zr_aload_n (pc' := 176) (i := 0) dX12_valueRead_175 rfl rfl rfl ?_
                  refine zr_iconst (pc' := 177) dX12_valueRead_176 rfl ?_
                  refine zr_put (pc' := 180) dX12_valueRead_177 rfl ps_102 kd_102 fl_X12_326 kc_12 rfl nf_102_48 rfl (Or.inl rfl) (fun M47 hM1 => ?_)
                  have h := h M47 hM1
                  refine zr_aload_n (pc' := 181) (i := 0) dX12_valueRead_180 rfl rfl rfl ?_
                  refine zn_callV (pc' := 184) (args := []) (st := []) (st' := fun _ => []) dX12_valueRead_181 rfl cv_X12_311 ⟨rfl, rfl, by decide, by decide⟩ rfl ps_102 kd_102 rfl rfl (Nat.le_of_ble_eq_true rfl) (fun _ => rfl) h ?_
                  intro r48 M49 h
                  refine zr_aload_n (pc' := 185) (i := 0) dX12_valueRead_184 rfl rfl rfl ?_
                  refine zr_iload_n (pc' := 186) (i := 1) dX12_valueRead_185 rfl rfl rfl ?_
                  refine zn_callV (pc' := 189) (args := [.inl r45]) (st := []) (st' := fun _ => []) dX12_valueRead_186 rfl cv_X12_297 ⟨rfl, rfl, by decide, by decide⟩ rfl ps_102 kd_102 rfl rfl (Nat.le_of_ble_eq_true rfl) (fun _ => rfl) h ?_
                  intro r50 M51 h
                  refine zr_iconst (pc' := 190) dX12_valueRead_189 rfl ?_
                  exact zr_ireturn dX12_valueRead_190 rfl rfl (Or.inr rfl) (Nat.le_refl _) (Nat.le_refl _) (And.intro rfl h)
                · have h := h.2.2 hc
                  refine zr_iconst (pc' := 174) dX12_valueRead_173 rfl ?_
                  exact zr_ireturn dX12_valueRead_174 rfl rfl (Or.inl rfl) (Nat.le_refl _) (Nat.le_refl _) (And.intro rfl h)
              · have h := h.2.2 hc
                refine zr_iconst (pc' := 158) dX12_valueRead_157 rfl ?_
                exact zr_ireturn dX12_valueRead_158 rfl rfl (Or.inl rfl) (Nat.le_refl _) (Nat.le_refl _) (And.intro rfl h)
            · have h := h.2.2 hc
              refine zr_aload_n (pc' := 133) (i := 0) dX12_valueRead_132 rfl rfl rfl ?_
              refine zr_get (pc' := 136) dX12_valueRead_133 rfl ps_102 kd_102 fl_X12_264 kc_12 (gv_102_20 _) ?_
              refine zr_bipush (pc' := 138) dX12_valueRead_136 rfl rfl ?_
              refine zr_icmp_gt (tgt := 146) (pc' := 141) dX12_valueRead_138 rfl rfl h.1 (zRd rfl) (fun hc => ?_) (fun hc => ?_)
              · have h := h.2.1 hc
                refine zr_aload_n (pc' := 147) (i := 0) dX12_valueRead_146 rfl rfl rfl ?_
                refine zr_iconst (pc' := 148) dX12_valueRead_147 rfl ?_
                refine zr_ldcw (pc' := 151) (x := 99999) dX12_valueRead_148 rfl ci_X12_270 ?_
                refine zn_callV (pc' := 154) (args := [.inl 0, .inl 99999]) (st := []) (st' := fun r52 => [.inl r52]) dX12_valueRead_151 rfl cv_X12_323 ⟨rfl, rfl, by decide, by decide⟩ rfl ps_102 kd_102 rfl rfl (Nat.le_of_ble_eq_true rfl) (fun _ => rfl) h ?_
                intro r52 M53 h
                refine zr_if_ne (tgt := 159) (pc' := 157) dX12_valueRead_154 rfl rfl h.1 (fun hc => ?_) (fun hc => ?_)
                · have h := h.2.1 hc
                  refine zr_aload_n (pc' := 160) (i := 0) dX12_valueRead_159 rfl rfl rfl ?_
                  refine zr_iconst (pc' := 161) dX12_valueRead_160 rfl ?_
                  refine zr_aload_n (pc' := 162) (i := 0) dX12_valueRead_161 rfl rfl rfl ?_
                  refine zr_get (pc' := 165) dX12_valueRead_162 rfl ps_102 kd_102 fl_X12_264 kc_12 (gv_102_20 _) ?_
                  refine zn_callV (pc' := 168) (args := [.inl 0, .inl (M53 102 20)]) (st := []) (st' := fun r54 => [.inl r54]) dX12_valueRead_165 rfl cv_X12_300 ⟨rfl, rfl, by decide, by decide⟩ rfl ps_102 kd_102 rfl rfl (Nat.le_of_ble_eq_true rfl) (fun _ => rfl) h ?_
                  intro r54 M55 h
                  refine zr_istore_n (pc' := 169) (i := 1) (al' := [(1, .inl r54), (0, .inr (.inr 102))]) dX12_valueRead_168 rfl rfl (by decide) rfl ?_
                  refine zr_iload_n (pc' := 170) (i := 1) dX12_valueRead_169 rfl rfl rfl ?_
                  refine zr_if_ge (tgt := 175) (pc' := 173) dX12_valueRead_170 rfl rfl h.1 (fun hc => ?_) (fun hc => ?_)
                  · have h := h.2.1 hc
                    refine zr_aload_n (pc' := 176) (i := 0) dX12_valueRead_175 rfl rfl rfl ?_
                    refine zr_iconst (pc' := 177) dX12_valueRead_176 rfl ?_
                    refine zr_put (pc' := 180) dX12_valueRead_177 rfl ps_102 kd_102 fl_X12_326 kc_12 rfl nf_102_48 rfl (Or.inl rfl) (fun M56 hM1 => ?_)
                    have h := h M56 hM1
                    refine zr_aload_n (pc' := 181) (i := 0) dX12_valueRead_180 rfl rfl rfl ?_
                    refine zn_callV (pc' := 184) (args := []) (st := []) (st' := fun _ => []) dX12_valueRead_181 rfl cv_X12_311 ⟨rfl, rfl, by decide, by decide⟩ rfl ps_102 kd_102 rfl rfl (Nat.le_of_ble_eq_true rfl) (fun _ => rfl) h ?_
                    intro r57 M58 h
                    refine zr_aload_n (pc' := 185) (i := 0) dX12_valueRead_184 rfl rfl rfl ?_
                    refine zr_iload_n (pc' := 186) (i := 1) dX12_valueRead_185 rfl rfl rfl ?_
                    refine zn_callV (pc' := 189) (args := [.inl r54]) (st := []) (st' := fun _ => []) dX12_valueRead_186 rfl cv_X12_297 ⟨rfl, rfl, by decide, by decide⟩ rfl ps_102 kd_102 rfl rfl (Nat.le_of_ble_eq_true rfl) (fun _ => rfl) h ?_
                    intro r59 M60 h
                    refine zr_iconst (pc' := 190) dX12_valueRead_189 rfl ?_
                    exact zr_ireturn dX12_valueRead_190 rfl rfl (Or.inr rfl) (Nat.le_refl _) (Nat.le_refl _) (And.intro rfl h)
                  · have h := h.2.2 hc
                    refine zr_iconst (pc' := 174) dX12_valueRead_173 rfl ?_
                    exact zr_ireturn dX12_valueRead_174 rfl rfl (Or.inl rfl) (Nat.le_refl _) (Nat.le_refl _) (And.intro rfl h)
                · have h := h.2.2 hc
                  refine zr_iconst (pc' := 158) dX12_valueRead_157 rfl ?_
                  exact zr_ireturn dX12_valueRead_158 rfl rfl (Or.inl rfl) (Nat.le_refl _) (Nat.le_refl _) (And.intro rfl h)
              · have h := h.2.2 hc
                refine zr_aload_n (pc' := 142) (i := 0) dX12_valueRead_141 rfl rfl rfl ?_
                refine zn_callV (pc' := 145) (args := []) (st := []) (st' := fun r61 => [.inl r61]) dX12_valueRead_142 rfl cv_X12_335 ⟨rfl, rfl, by decide, by decide⟩ rfl ps_102 kd_102 rfl rfl (Nat.le_of_ble_eq_true rfl) (fun _ => rfl) h ?_
                intro r61 M62 h
                exact zr_ireturn dX12_valueRead_145 rfl rfl h.1 (Nat.le_refl _) (Nat.le_refl _) (And.intro rfl h.2)
        · have h := h.2.2 hc
          refine zr_aload_n (pc' := 103) (i := 0) dX12_valueRead_102 rfl rfl rfl ?_
          refine zr_get (pc' := 106) dX12_valueRead_103 rfl ps_102 kd_102 fl_X12_307 kc_12 (gv_102_49 _) ?_
          refine zr_if_eq (tgt := 116) (pc' := 109) dX12_valueRead_106 rfl rfl h.1 (fun hc => ?_) (fun hc => ?_)
          · have h := h.2.1 hc
            refine zr_aload_n (pc' := 117) (i := 0) dX12_valueRead_116 rfl rfl rfl ?_
            refine zr_get (pc' := 120) dX12_valueRead_117 rfl ps_102 kd_102 fl_X12_254 kc_12 (gv_102_19 _) ?_
            refine zr_iconst (pc' := 121) dX12_valueRead_120 rfl ?_
            refine zr_icmp_ne (tgt := 146) (pc' := 124) dX12_valueRead_121 rfl rfl h.1 (zRd rfl) (fun hc => ?_) (fun hc => ?_)
            · have h := h.2.1 hc
              refine zr_aload_n (pc' := 147) (i := 0) dX12_valueRead_146 rfl rfl rfl ?_
              refine zr_iconst (pc' := 148) dX12_valueRead_147 rfl ?_
              refine zr_ldcw (pc' := 151) (x := 99999) dX12_valueRead_148 rfl ci_X12_270 ?_
              refine zn_callV (pc' := 154) (args := [.inl 0, .inl 99999]) (st := []) (st' := fun r63 => [.inl r63]) dX12_valueRead_151 rfl cv_X12_323 ⟨rfl, rfl, by decide, by decide⟩ rfl ps_102 kd_102 rfl rfl (Nat.le_of_ble_eq_true rfl) (fun _ => rfl) h ?_
              intro r63 M64 h
              refine zr_if_ne (tgt := 159) (pc' := 157) dX12_valueRead_154 rfl rfl h.1 (fun hc => ?_) (fun hc => ?_)
              · have h := h.2.1 hc
                refine zr_aload_n (pc' := 160) (i := 0) dX12_valueRead_159 rfl rfl rfl ?_
                refine zr_iconst (pc' := 161) dX12_valueRead_160 rfl ?_
                refine zr_aload_n (pc' := 162) (i := 0) dX12_valueRead_161 rfl rfl rfl ?_
                refine zr_get (pc' := 165) dX12_valueRead_162 rfl ps_102 kd_102 fl_X12_264 kc_12 (gv_102_20 _) ?_
                refine zn_callV (pc' := 168) (args := [.inl 0, .inl (M64 102 20)]) (st := []) (st' := fun r65 => [.inl r65]) dX12_valueRead_165 rfl cv_X12_300 ⟨rfl, rfl, by decide, by decide⟩ rfl ps_102 kd_102 rfl rfl (Nat.le_of_ble_eq_true rfl) (fun _ => rfl) h ?_
                intro r65 M66 h
                refine zr_istore_n (pc' := 169) (i := 1) (al' := [(1, .inl r65), (0, .inr (.inr 102))]) dX12_valueRead_168 rfl rfl (by decide) rfl ?_
                refine zr_iload_n (pc' := 170) (i := 1) dX12_valueRead_169 rfl rfl rfl ?_
                refine zr_if_ge (tgt := 175) (pc' := 173) dX12_valueRead_170 rfl rfl h.1 (fun hc => ?_) (fun hc => ?_)
                · have h := h.2.1 hc
                  refine zr_aload_n (pc' := 176) (i := 0) dX12_valueRead_175 rfl rfl rfl ?_
                  refine zr_iconst (pc' := 177) dX12_valueRead_176 rfl ?_
                  refine zr_put (pc' := 180) dX12_valueRead_177 rfl ps_102 kd_102 fl_X12_326 kc_12 rfl nf_102_48 rfl (Or.inl rfl) (fun M67 hM1 => ?_)
                  have h := h M67 hM1
                  refine zr_aload_n (pc' := 181) (i := 0) dX12_valueRead_180 rfl rfl rfl ?_
                  refine zn_callV (pc' := 184) (args := []) (st := []) (st' := fun _ => []) dX12_valueRead_181 rfl cv_X12_311 ⟨rfl, rfl, by decide, by decide⟩ rfl ps_102 kd_102 rfl rfl (Nat.le_of_ble_eq_true rfl) (fun _ => rfl) h ?_
                  intro r68 M69 h
                  refine zr_aload_n (pc' := 185) (i := 0) dX12_valueRead_184 rfl rfl rfl ?_
                  refine zr_iload_n (pc' := 186) (i := 1) dX12_valueRead_185 rfl rfl rfl ?_
                  refine zn_callV (pc' := 189) (args := [.inl r65]) (st := []) (st' := fun _ => []) dX12_valueRead_186 rfl cv_X12_297 ⟨rfl, rfl, by decide, by decide⟩ rfl ps_102 kd_102 rfl rfl (Nat.le_of_ble_eq_true rfl) (fun _ => rfl) h ?_
                  intro r70 M71 h
                  refine zr_iconst (pc' := 190) dX12_valueRead_189 rfl ?_
                  exact zr_ireturn dX12_valueRead_190 rfl rfl (Or.inr rfl) (Nat.le_refl _) (Nat.le_refl _) (And.intro rfl h)
                · have h := h.2.2 hc
                  refine zr_iconst (pc' := 174) dX12_valueRead_173 rfl ?_
                  exact zr_ireturn dX12_valueRead_174 rfl rfl (Or.inl rfl) (Nat.le_refl _) (Nat.le_refl _) (And.intro rfl h)
              · have h := h.2.2 hc
                refine zr_iconst (pc' := 158) dX12_valueRead_157 rfl ?_
                exact zr_ireturn dX12_valueRead_158 rfl rfl (Or.inl rfl) (Nat.le_refl _) (Nat.le_refl _) (And.intro rfl h)
            · have h := h.2.2 hc
              refine zr_aload_n (pc' := 125) (i := 0) dX12_valueRead_124 rfl rfl rfl ?_
              refine zr_get (pc' := 128) dX12_valueRead_125 rfl ps_102 kd_102 fl_X12_264 kc_12 (gv_102_20 _) ?_
              refine zr_iconst (pc' := 129) dX12_valueRead_128 rfl ?_
              refine zr_icmp_lt (tgt := 146) (pc' := 132) dX12_valueRead_129 rfl rfl h.1 (zRd rfl) (fun hc => ?_) (fun hc => ?_)
              · have h := h.2.1 hc
                refine zr_aload_n (pc' := 147) (i := 0) dX12_valueRead_146 rfl rfl rfl ?_
                refine zr_iconst (pc' := 148) dX12_valueRead_147 rfl ?_
                refine zr_ldcw (pc' := 151) (x := 99999) dX12_valueRead_148 rfl ci_X12_270 ?_
                refine zn_callV (pc' := 154) (args := [.inl 0, .inl 99999]) (st := []) (st' := fun r72 => [.inl r72]) dX12_valueRead_151 rfl cv_X12_323 ⟨rfl, rfl, by decide, by decide⟩ rfl ps_102 kd_102 rfl rfl (Nat.le_of_ble_eq_true rfl) (fun _ => rfl) h ?_
                intro r72 M73 h
                refine zr_if_ne (tgt := 159) (pc' := 157) dX12_valueRead_154 rfl rfl h.1 (fun hc => ?_) (fun hc => ?_)
                · have h := h.2.1 hc
                  refine zr_aload_n (pc' := 160) (i := 0) dX12_valueRead_159 rfl rfl rfl ?_
                  refine zr_iconst (pc' := 161) dX12_valueRead_160 rfl ?_
                  refine zr_aload_n (pc' := 162) (i := 0) dX12_valueRead_161 rfl rfl rfl ?_
                  refine zr_get (pc' := 165) dX12_valueRead_162 rfl ps_102 kd_102 fl_X12_264 kc_12 (gv_102_20 _) ?_
                  refine zn_callV (pc' := 168) (args := [.inl 0, .inl (M73 102 20)]) (st := []) (st' := fun r74 => [.inl r74]) dX12_valueRead_165 rfl cv_X12_300 ⟨rfl, rfl, by decide, by decide⟩ rfl ps_102 kd_102 rfl rfl (Nat.le_of_ble_eq_true rfl) (fun _ => rfl) h ?_
                  intro r74 M75 h
                  refine zr_istore_n (pc' := 169) (i := 1) (al' := [(1, .inl r74), (0, .inr (.inr 102))]) dX12_valueRead_168 rfl rfl (by decide) rfl ?_
                  refine zr_iload_n (pc' := 170) (i := 1) dX12_valueRead_169 rfl rfl rfl ?_
                  refine zr_if_ge (tgt := 175) (pc' := 173) dX12_valueRead_170 rfl rfl h.1 (fun hc => ?_) (fun hc => ?_)
                  · have h := h.2.1 hc
                    refine zr_aload_n (pc' := 176) (i := 0) dX12_valueRead_175 rfl rfl rfl ?_
                    refine zr_iconst (pc' := 177) dX12_valueRead_176 rfl ?_
                    refine zr_put (pc' := 180) dX12_valueRead_177 rfl ps_102 kd_102 fl_X12_326 kc_12 rfl nf_102_48 rfl (Or.inl rfl) (fun M76 hM1 => ?_)
                    have h := h M76 hM1
                    refine zr_aload_n (pc' := 181) (i := 0) dX12_valueRead_180 rfl rfl rfl ?_
                    refine zn_callV (pc' := 184) (args := []) (st := []) (st' := fun _ => []) dX12_valueRead_181 rfl cv_X12_311 ⟨rfl, rfl, by decide, by decide⟩ rfl ps_102 kd_102 rfl rfl (Nat.le_of_ble_eq_true rfl) (fun _ => rfl) h ?_
                    intro r77 M78 h
                    refine zr_aload_n (pc' := 185) (i := 0) dX12_valueRead_184 rfl rfl rfl ?_
                    refine zr_iload_n (pc' := 186) (i := 1) dX12_valueRead_185 rfl rfl rfl ?_
                    refine zn_callV (pc' := 189) (args := [.inl r74]) (st := []) (st' := fun _ => []) dX12_valueRead_186 rfl cv_X12_297 ⟨rfl, rfl, by decide, by decide⟩ rfl ps_102 kd_102 rfl rfl (Nat.le_of_ble_eq_true rfl) (fun _ => rfl) h ?_
                    intro r79 M80 h
                    refine zr_iconst (pc' := 190) dX12_valueRead_189 rfl ?_
                    exact zr_ireturn dX12_valueRead_190 rfl rfl (Or.inr rfl) (Nat.le_refl _) (Nat.le_refl _) (And.intro rfl h)
                  · have h := h.2.2 hc
                    refine zr_iconst (pc' := 174) dX12_valueRead_173 rfl ?_
                    exact zr_ireturn dX12_valueRead_174 rfl rfl (Or.inl rfl) (Nat.le_refl _) (Nat.le_refl _) (And.intro rfl h)
                · have h := h.2.2 hc
                  refine zr_iconst (pc' := 158) dX12_valueRead_157 rfl ?_
                  exact zr_ireturn dX12_valueRead_158 rfl rfl (Or.inl rfl) (Nat.le_refl _) (Nat.le_refl _) (And.intro rfl h)
              · have h := h.2.2 hc
                refine zr_aload_n (pc' := 133) (i := 0) dX12_valueRead_132 rfl rfl rfl ?_
                refine zr_get (pc' := 136) dX12_valueRead_133 rfl ps_102 kd_102 fl_X12_264 kc_12 (gv_102_20 _) ?_
                refine zr_bipush (pc' := 138) dX12_valueRead_136 rfl rfl ?_
                refine zr_icmp_gt (tgt := 146) (pc' := 141) dX12_valueRead_138 rfl rfl h.1 (zRd rfl) (fun hc => ?_) (fun hc => ?_)
                · have h := h.2.1 hc
                  refine zr_aload_n (pc' := 147) (i := 0) dX12_valueRead_146 rfl rfl rfl ?_
                  refine zr_iconst (pc' := 148) dX12_valueRead_147 rfl ?_
                  refine zr_ldcw (pc' := 151) (x := 99999) dX12_valueRead_148 rfl ci_X12_270 ?_
                  refine zn_callV (pc' := 154) (args := [.inl 0, .inl 99999]) (st := []) (st' := fun r81 => [.inl r81]) dX12_valueRead_151 rfl cv_X12_323 ⟨rfl, rfl, by decide, by decide⟩ rfl ps_102 kd_102 rfl rfl (Nat.le_of_ble_eq_true rfl) (fun _ => rfl) h ?_
                  intro r81 M82 h
                  refine zr_if_ne (tgt := 159) (pc' := 157) dX12_valueRead_154 rfl rfl h.1 (fun hc => ?_) (fun hc => ?_)
                  · have h := h.2.1 hc
                    refine zr_aload_n (pc' := 160) (i := 0) dX12_valueRead_159 rfl rfl rfl ?_
                    refine zr_iconst (pc' := 161) dX12_valueRead_160 rfl ?_
                    refine zr_aload_n (pc' := 162) (i := 0) dX12_valueRead_161 rfl rfl rfl ?_
                    refine zr_get (pc' := 165) dX12_valueRead_162 rfl ps_102 kd_102 fl_X12_264 kc_12 (gv_102_20 _) ?_
                    refine zn_callV (pc' := 168) (args := [.inl 0, .inl (M82 102 20)]) (st := []) (st' := fun r83 => [.inl r83]) dX12_valueRead_165 rfl cv_X12_300 ⟨rfl, rfl, by decide, by decide⟩ rfl ps_102 kd_102 rfl rfl (Nat.le_of_ble_eq_true rfl) (fun _ => rfl) h ?_
                    intro r83 M84 h
                    refine zr_istore_n (pc' := 169) (i := 1) (al' := [(1, .inl r83), (0, .inr (.inr 102))]) dX12_valueRead_168 rfl rfl (by decide) rfl ?_
                    refine zr_iload_n (pc' := 170) (i := 1) dX12_valueRead_169 rfl rfl rfl ?_
                    refine zr_if_ge (tgt := 175) (pc' := 173) dX12_valueRead_170 rfl rfl h.1 (fun hc => ?_) (fun hc => ?_)
                    · have h := h.2.1 hc
                      refine zr_aload_n (pc' := 176) (i := 0) dX12_valueRead_175 rfl rfl rfl ?_
                      refine zr_iconst (pc' := 177) dX12_valueRead_176 rfl ?_
                      refine zr_put (pc' := 180) dX12_valueRead_177 rfl ps_102 kd_102 fl_X12_326 kc_12 rfl nf_102_48 rfl (Or.inl rfl) (fun M85 hM1 => ?_)
                      have h := h M85 hM1
                      refine zr_aload_n (pc' := 181) (i := 0) dX12_valueRead_180 rfl rfl rfl ?_
                      refine zn_callV (pc' := 184) (args := []) (st := []) (st' := fun _ => []) dX12_valueRead_181 rfl cv_X12_311 ⟨rfl, rfl, by decide, by decide⟩ rfl ps_102 kd_102 rfl rfl (Nat.le_of_ble_eq_true rfl) (fun _ => rfl) h ?_
                      intro r86 M87 h
                      refine zr_aload_n (pc' := 185) (i := 0) dX12_valueRead_184 rfl rfl rfl ?_
                      refine zr_iload_n (pc' := 186) (i := 1) dX12_valueRead_185 rfl rfl rfl ?_
                      refine zn_callV (pc' := 189) (args := [.inl r83]) (st := []) (st' := fun _ => []) dX12_valueRead_186 rfl cv_X12_297 ⟨rfl, rfl, by decide, by decide⟩ rfl ps_102 kd_102 rfl rfl (Nat.le_of_ble_eq_true rfl) (fun _ => rfl) h ?_
                      intro r88 M89 h
                      refine zr_iconst (pc' := 190) dX12_valueRead_189 rfl ?_
                      exact zr_ireturn dX12_valueRead_190 rfl rfl (Or.inr rfl) (Nat.le_refl _) (Nat.le_refl _) (And.intro rfl h)
                    · have h := h.2.2 hc
                      refine zr_iconst (pc' := 174) dX12_valueRead_173 rfl ?_
                      exact zr_ireturn dX12_valueRead_174 rfl rfl (Or.inl rfl) (Nat.le_refl _) (Nat.le_refl _) (And.intro rfl h)
                  · have h := h.2.2 hc
                    refine zr_iconst (pc' := 158) dX12_valueRead_157 rfl ?_
                    exact zr_ireturn dX12_valueRead_158 rfl rfl (Or.inl rfl) (Nat.le_refl _) (Nat.le_refl _) (And.intro rfl h)
                · have h := h.2.2 hc
                  refine zr_aload_n (pc' := 142) (i := 0) dX12_valueRead_141 rfl rfl rfl ?_
                  refine zn_callV (pc' := 145) (args := []) (st := []) (st' := fun r90 => [.inl r90]) dX12_valueRead_142 rfl cv_X12_335 ⟨rfl, rfl, by decide, by decide⟩ rfl ps_102 kd_102 rfl rfl (Nat.le_of_ble_eq_true rfl) (fun _ => rfl) h ?_
                  intro r90 M91 h
                  exact zr_ireturn dX12_valueRead_145 rfl rfl h.1 (Nat.le_refl _) (Nat.le_refl _) (And.intro rfl h.2)
          · have h := h.2.2 hc
            refine zr_aload_n (pc' := 110) (i := 0) dX12_valueRead_109 rfl rfl rfl ?_
            refine zr_bipush (pc' := 112) dX12_valueRead_110 rfl rfl ?_
            refine zn_callV (pc' := 115) (args := [.inl 12]) (st := []) (st' := fun r92 => [.inl r92]) dX12_valueRead_112 rfl cv_X12_332 ⟨rfl, rfl, by decide, by decide⟩ rfl ps_102 kd_102 rfl rfl (Nat.le_of_ble_eq_true rfl) (fun _ => rfl) h ?_
            intro r92 M93 h
            exact zr_ireturn dX12_valueRead_115 rfl rfl h.1 (Nat.le_refl _) (Nat.le_refl _) (And.intro rfl h.2)
    · have h := h.2.2 hc
      refine zr_aload_n (pc' := 80) (i := 0) dX12_valueRead_79 rfl rfl rfl ?_
      refine zr_bipush (pc' := 82) dX12_valueRead_80 rfl rfl ?_
      refine zn_callV (pc' := 85) (args := [.inl 11]) (st := []) (st' := fun r94 => [.inl r94]) dX12_valueRead_82 rfl cv_X12_332 ⟨rfl, rfl, by decide, by decide⟩ rfl ps_102 kd_102 rfl rfl (Nat.le_of_ble_eq_true rfl) (fun _ => rfl) h ?_
      intro r94 M95 h
      exact zr_ireturn dX12_valueRead_85 rfl rfl h.1 (Nat.le_refl _) (Nat.le_refl _) (And.intro rfl h.2)
  · have h := h.2.2 hc
    refine zr_aload_n (pc' := 10) (i := 0) dX12_valueRead_9 rfl rfl rfl ?_
    refine zr_get (pc' := 13) dX12_valueRead_10 rfl ps_102 kd_102 fl_X12_317 kc_12 (gv_102_46 _) ?_
    refine zr_bipush (pc' := 15) dX12_valueRead_13 rfl rfl ?_
    refine zr_icmp_ne (tgt := 24) (pc' := 18) dX12_valueRead_15 rfl rfl h.1 (zRd rfl) (fun hc => ?_) (fun hc => ?_)
    · have h := h.2.1 hc
      refine zr_aload_n (pc' := 25) (i := 0) dX12_valueRead_24 rfl rfl rfl ?_
      refine zr_get (pc' := 28) dX12_valueRead_25 rfl ps_102 kd_102 fl_X12_84 kc_12 (gv_102_45 _) ?_
      refine zr_aload_n (pc' := 29) (i := 0) dX12_valueRead_28 rfl rfl rfl ?_
      refine zr_get (pc' := 32) dX12_valueRead_29 rfl ps_102 kd_102 fl_X12_317 kc_12 (gv_102_46 _) ?_
      refine zr_aload_n (pc' := 33) (i := 0) dX12_valueRead_32 rfl rfl rfl ?_
      refine zr_get (pc' := 36) dX12_valueRead_33 rfl ps_102 kd_102 fl_X12_329 kc_12 (gv_102_47 _) ?_
      refine zr_zast (pc' := 37) dX12_valueRead_36 rfl ps_126 kd_126 (by decide) h.1.1 h.1.2.1 h.1.2.2 (fun M96 hM1 => ?_)
      have h := h.2 M96 hM1
      refine zr_aload_n (pc' := 38) (i := 0) dX12_valueRead_37 rfl rfl rfl ?_
      refine zr_dup (pc' := 39) dX12_valueRead_38 rfl rfl ?_
      refine zr_get (pc' := 42) dX12_valueRead_39 rfl ps_102 kd_102 fl_X12_317 kc_12 (gv_102_46 _) ?_
      refine zr_iconst (pc' := 43) dX12_valueRead_42 rfl ?_
      refine zr_iadd (pc' := 44) dX12_valueRead_43 rfl ?_
      refine zr_put (pc' := 47) dX12_valueRead_44 rfl ps_102 kd_102 fl_X12_317 kc_12 rfl nf_102_46 rfl trivial (fun M97 hM1 => ?_)
      have h := h M97 hM1
      refine zr_aload_n (pc' := 48) (i := 0) dX12_valueRead_47 rfl rfl rfl ?_
      refine zr_bipush (pc' := 50) dX12_valueRead_48 rfl rfl ?_
      refine zr_iconst (pc' := 51) dX12_valueRead_50 rfl ?_
      refine zn_callV (pc' := 54) (args := [.inl 100, .inl (-1)]) (st := []) (st' := fun _ => []) dX12_valueRead_51 rfl cv_X12_303 ⟨rfl, rfl, by decide, by decide⟩ rfl ps_102 kd_102 rfl rfl (Nat.le_of_ble_eq_true rfl) (fun _ => rfl) h ?_
      intro r98 M99 h
      refine zr_aload_n (pc' := 55) (i := 0) dX12_valueRead_54 rfl rfl rfl ?_
      refine zr_iconst (pc' := 56) dX12_valueRead_55 rfl ?_
      refine zr_put (pc' := 59) dX12_valueRead_56 rfl ps_102 kd_102 fl_X12_329 kc_12 rfl nf_102_47 rfl (Or.inl rfl) (fun M100 hM1 => ?_)
      have h := h M100 hM1
      refine zr_aload_n (pc' := 60) (i := 0) dX12_valueRead_59 rfl rfl rfl ?_
      refine zr_iconst (pc' := 61) dX12_valueRead_60 rfl ?_
      refine zr_put (pc' := 64) dX12_valueRead_61 rfl ps_102 kd_102 fl_X12_307 kc_12 rfl nf_102_49 rfl (Or.inr rfl) (fun M101 hM1 => ?_)
      have h := h M101 hM1
      refine zr_aload_n (pc' := 65) (i := 0) dX12_valueRead_64 rfl rfl rfl ?_
      refine zn_callV (pc' := 68) (args := []) (st := []) (st' := fun _ => []) dX12_valueRead_65 rfl cv_X12_311 ⟨rfl, rfl, by decide, by decide⟩ rfl ps_102 kd_102 rfl rfl (Nat.le_of_ble_eq_true rfl) (fun _ => rfl) h ?_
      intro r102 M103 h
      refine zr_iconst (pc' := 69) dX12_valueRead_68 rfl ?_
      exact zr_ireturn dX12_valueRead_69 rfl rfl (Or.inr rfl) (Nat.le_refl _) (Nat.le_refl _) (And.intro rfl h)
    · have h := h.2.2 hc
      refine zr_aload_n (pc' := 19) (i := 0) dX12_valueRead_18 rfl rfl rfl ?_
      refine zr_iconst (pc' := 20) dX12_valueRead_19 rfl ?_
      refine zn_callV (pc' := 23) (args := [.inl 2]) (st := []) (st' := fun r104 => [.inl r104]) dX12_valueRead_20 rfl cv_X12_278 ⟨rfl, rfl, by decide, by decide⟩ rfl ps_102 kd_102 rfl rfl (Nat.le_of_ble_eq_true rfl) (fun _ => rfl) h ?_
      intro r104 M105 h
      exact zr_ireturn dX12_valueRead_23 rfl rfl h.1 (Nat.le_refl _) (Nat.le_refl _) (And.intro rfl h.2)
set_option maxRecDepth 20000 in
theorem vcX12_signNow {E : zE} {M : zM} {Q : Int → zM → Prop}
    (h : ((zR (M 102 19)) ∧ ((¬ (M 102 19) = 1 → ((zR (M 102 19)) ∧ ((¬ (M 102 19) = 3 → Q (-1) M) ∧ ((M 102 19) = 3 → ((zR (M 102 20)) ∧ ((11 ≤ (M 102 20) → Q (-1) M) ∧ ((M 102 20) < 11 → Q (M 102 20) M))))))) ∧ ((M 102 19) = 1 → ((zR (M 102 20)) ∧ ((¬ (M 102 20) = 3 → ((zR (M 102 20)) ∧ ((¬ (M 102 20) = 2 → Q (-1) M) ∧ ((M 102 20) = 2 → Q 14 M)))) ∧ ((M 102 20) = 3 → Q 13 M)))))))
    : zP E mX12_signNow [.inr (.inr 102)] M Q := by
  refine zP_of (by decide +kernel) rfl (Nat.le_of_ble_eq_true rfl) ?_
  show zA E zNN (0, 0) mX12_signNow 0 [(0, .inr (.inr 102))] [] M (zQ Q)
  refine zr_aload_n (pc' := 1) (i := 0) dX12_signNow_0 rfl rfl rfl ?_
  refine zr_get (pc' := 4) dX12_signNow_1 rfl ps_102 kd_102 fl_X12_254 kc_12 (gv_102_19 _) ?_
  refine zr_iconst (pc' := 5) dX12_signNow_4 rfl ?_
  refine zr_icmp_ne (tgt := 36) (pc' := 8) dX12_signNow_5 rfl rfl h.1 (zRd rfl) (fun hc => ?_) (fun hc => ?_)
  · have h := h.2.1 hc
    refine zr_aload_n (pc' := 37) (i := 0) dX12_signNow_36 rfl rfl rfl ?_
    refine zr_get (pc' := 40) dX12_signNow_37 rfl ps_102 kd_102 fl_X12_254 kc_12 (gv_102_19 _) ?_
    refine zr_iconst (pc' := 41) dX12_signNow_40 rfl ?_
    refine zr_icmp_ne (tgt := 60) (pc' := 44) dX12_signNow_41 rfl rfl h.1 (zRd rfl) (fun hc => ?_) (fun hc => ?_)
    · have h := h.2.1 hc
      refine zr_iconst (pc' := 61) dX12_signNow_60 rfl ?_
      exact zr_ireturn dX12_signNow_61 rfl rfl trivial (Nat.le_refl _) (Nat.le_refl _) (And.intro rfl h)
    · have h := h.2.2 hc
      refine zr_aload_n (pc' := 45) (i := 0) dX12_signNow_44 rfl rfl rfl ?_
      refine zr_get (pc' := 48) dX12_signNow_45 rfl ps_102 kd_102 fl_X12_264 kc_12 (gv_102_20 _) ?_
      refine zr_bipush (pc' := 50) dX12_signNow_48 rfl rfl ?_
      refine zr_icmp_ge (tgt := 60) (pc' := 53) dX12_signNow_50 rfl rfl h.1 (zRd rfl) (fun hc => ?_) (fun hc => ?_)
      · have h := h.2.1 hc
        refine zr_iconst (pc' := 61) dX12_signNow_60 rfl ?_
        exact zr_ireturn dX12_signNow_61 rfl rfl trivial (Nat.le_refl _) (Nat.le_refl _) (And.intro rfl h)
      · have h := h.2.2 hc
        refine zr_aload_n (pc' := 54) (i := 0) dX12_signNow_53 rfl rfl rfl ?_
        refine zr_get (pc' := 57) dX12_signNow_54 rfl ps_102 kd_102 fl_X12_264 kc_12 (gv_102_20 _) ?_
        refine zr_goto (pc' := 61) dX12_signNow_57 rfl ?_
        exact zr_ireturn dX12_signNow_61 rfl rfl trivial (Nat.le_refl _) (Nat.le_refl _) (And.intro rfl h)
  · have h := h.2.2 hc
    refine zr_aload_n (pc' := 9) (i := 0) dX12_signNow_8 rfl rfl rfl ?_
    refine zr_get (pc' := 12) dX12_signNow_9 rfl ps_102 kd_102 fl_X12_264 kc_12 (gv_102_20 _) ?_
    refine zr_iconst (pc' := 13) dX12_signNow_12 rfl ?_
    refine zr_icmp_ne (tgt := 21) (pc' := 16) dX12_signNow_13 rfl rfl h.1 (zRd rfl) (fun hc => ?_) (fun hc => ?_)
    · have h := h.2.1 hc
      refine zr_aload_n (pc' := 22) (i := 0) dX12_signNow_21 rfl rfl rfl ?_
      refine zr_get (pc' := 25) dX12_signNow_22 rfl ps_102 kd_102 fl_X12_264 kc_12 (gv_102_20 _) ?_
      refine zr_iconst (pc' := 26) dX12_signNow_25 rfl ?_
      refine zr_icmp_ne (tgt := 34) (pc' := 29) dX12_signNow_26 rfl rfl h.1 (zRd rfl) (fun hc => ?_) (fun hc => ?_)
      · have h := h.2.1 hc
        refine zr_iconst (pc' := 35) dX12_signNow_34 rfl ?_
        exact zr_ireturn dX12_signNow_35 rfl rfl trivial (Nat.le_refl _) (Nat.le_refl _) (And.intro rfl h)
      · have h := h.2.2 hc
        refine zr_bipush (pc' := 31) dX12_signNow_29 rfl rfl ?_
        refine zr_goto (pc' := 35) dX12_signNow_31 rfl ?_
        exact zr_ireturn dX12_signNow_35 rfl rfl trivial (Nat.le_refl _) (Nat.le_refl _) (And.intro rfl h)
    · have h := h.2.2 hc
      refine zr_bipush (pc' := 18) dX12_signNow_16 rfl rfl ?_
      refine zr_goto (pc' := 35) dX12_signNow_18 rfl ?_
      exact zr_ireturn dX12_signNow_35 rfl rfl trivial (Nat.le_refl _) (Nat.le_refl _) (And.intro rfl h)
set_option maxRecDepth 20000 in
theorem vcX12_joins {E : zE} {M : zM} {Q : Int → zM → Prop} (l1 : Int)
    (h : ((zR l1) ∧ ((7 ≤ l1 → (zP E mX12_grown [.inr (.inr 102), .inl l1, .inl 0] M (fun r1 M2 => ((zR r1) ∧ ((0 ≤ r1 → (zP E mX12_weight [.inl l1] M2 (fun r3 M4 => (zP E mX12_bind [.inr (.inr 102), .inl r3] M4 (fun r5 M6 => (zP E mX12_waitFor [.inr (.inr 102), .inl l1, .inl r1] M6 (fun r7 M8 => ((zR l1) ∧ ((11 ≤ l1 → (∀ M9, M9 = zup M8 102 47 0 → ((zR l1) ∧ ((l1 ≤ 12 → (∀ M10, M10 = zup M9 102 49 0 → (∀ M11, M11 = zup M10 102 48 1 → (zP E mX12_take [.inr (.inr 102)] M11 (fun r12 M13 => Q 1 M13))))) ∧ (12 < l1 → (∀ M14, M14 = zup M9 102 49 1 → (∀ M15, M15 = zup M14 102 48 1 → (zP E mX12_take [.inr (.inr 102)] M15 (fun r16 M17 => Q 1 M17))))))))) ∧ (l1 < 11 → ((zR (M8 102 47)) ∧ (((M8 102 47) = 0 → (∀ M18, M18 = zup M8 102 47 0 → ((zR l1) ∧ ((l1 ≤ 12 → (∀ M19, M19 = zup M18 102 49 0 → (∀ M20, M20 = zup M19 102 48 1 → (zP E mX12_take [.inr (.inr 102)] M20 (fun r21 M22 => Q 1 M22))))) ∧ (12 < l1 → (∀ M23, M23 = zup M18 102 49 1 → (∀ M24, M24 = zup M23 102 48 1 → (zP E mX12_take [.inr (.inr 102)] M24 (fun r25 M26 => Q 1 M26))))))))) ∧ (¬ (M8 102 47) = 0 → (∀ M27, M27 = zup M8 102 47 1 → ((zR l1) ∧ ((l1 ≤ 12 → (∀ M28, M28 = zup M27 102 49 0 → (∀ M29, M29 = zup M28 102 48 1 → (zP E mX12_take [.inr (.inr 102)] M29 (fun r30 M31 => Q 1 M31))))) ∧ (12 < l1 → (∀ M32, M32 = zup M27 102 49 1 → (∀ M33, M33 = zup M32 102 48 1 → (zP E mX12_take [.inr (.inr 102)] M33 (fun r34 M35 => Q 1 M35))))))))))))))))))))) ∧ (r1 < 0 → Q 0 M2)))))) ∧ (l1 < 7 → ((zR (M 102 47)) ∧ (((M 102 47) = 0 → (zP E mX12_grown [.inr (.inr 102), .inl l1, .inl 0] M (fun r36 M37 => ((zR r36) ∧ ((0 ≤ r36 → (zP E mX12_weight [.inl l1] M37 (fun r38 M39 => (zP E mX12_bind [.inr (.inr 102), .inl r38] M39 (fun r40 M41 => (zP E mX12_waitFor [.inr (.inr 102), .inl l1, .inl r36] M41 (fun r42 M43 => (∀ M44, M44 = zup M43 102 47 1 → ((zR l1) ∧ ((l1 ≤ 12 → (∀ M45, M45 = zup M44 102 49 0 → (∀ M46, M46 = zup M45 102 48 1 → (zP E mX12_take [.inr (.inr 102)] M46 (fun r47 M48 => Q 1 M48))))) ∧ (12 < l1 → (∀ M49, M49 = zup M44 102 49 1 → (∀ M50, M50 = zup M49 102 48 1 → (zP E mX12_take [.inr (.inr 102)] M50 (fun r51 M52 => Q 1 M52))))))))))))))) ∧ (r36 < 0 → Q 0 M37)))))) ∧ (¬ (M 102 47) = 0 → (zP E mX12_wrong [.inr (.inr 102), .inl 1] M (fun r53 M54 => ((r53 = 0 ∨ r53 = 1) ∧ Q r53 M54))))))))))
    : zP E mX12_joins [.inr (.inr 102), .inl l1] M Q := by
  refine zP_of (by decide +kernel) rfl (Nat.le_of_ble_eq_true rfl) ?_
  show zA E zNN (0, 0) mX12_joins 0 [(0, .inr (.inr 102)), (1, .inl l1)] [] M (zQ Q)
  refine zr_iload_n (pc' := 1) (i := 1) dX12_joins_0 rfl rfl rfl ?_
  refine zr_bipush (pc' := 3) dX12_joins_1 rfl rfl ?_
  refine zr_icmp_ge (tgt := 10) (pc' := 6) dX12_joins_3 rfl rfl h.1 (zRd rfl) (fun hc => ?_) (fun hc => ?_)
  · have h := h.2.1 hc
    refine zr_iconst (pc' := 11) dX12_joins_10 rfl ?_
    refine zr_istore_n (pc' := 12) (i := 2) (al' := [(2, .inl 0), (0, .inr (.inr 102)), (1, .inl l1)]) dX12_joins_11 rfl rfl (by decide) rfl ?_
    refine zr_iload_n (pc' := 13) (i := 2) dX12_joins_12 rfl rfl rfl ?_
    refine zr_if_eq (tgt := 29) (pc' := 16) dX12_joins_13 rfl rfl (zRd rfl) (fun _ => ?_) (fun hc => absurd hc (by decide))
    refine zr_aload_n (pc' := 30) (i := 0) dX12_joins_29 rfl rfl rfl ?_
    refine zr_iload_n (pc' := 31) (i := 1) dX12_joins_30 rfl rfl rfl ?_
    refine zr_iconst (pc' := 32) dX12_joins_31 rfl ?_
    refine zn_callV (pc' := 35) (args := [.inl l1, .inl 0]) (st := []) (st' := fun r1 => [.inl r1]) dX12_joins_32 rfl cv_X12_300 ⟨rfl, rfl, by decide, by decide⟩ rfl ps_102 kd_102 rfl rfl (Nat.le_of_ble_eq_true rfl) (fun _ => rfl) h ?_
    intro r1 M2 h
    refine zr_istore_n (pc' := 36) (i := 3) (al' := [(3, .inl r1), (2, .inl 0), (0, .inr (.inr 102)), (1, .inl l1)]) dX12_joins_35 rfl rfl (by decide) rfl ?_
    refine zr_iload_n (pc' := 37) (i := 3) dX12_joins_36 rfl rfl rfl ?_
    refine zr_if_ge (tgt := 42) (pc' := 40) dX12_joins_37 rfl rfl h.1 (fun hc => ?_) (fun hc => ?_)
    · have h := h.2.1 hc
      refine zr_aload_n (pc' := 43) (i := 0) dX12_joins_42 rfl rfl rfl ?_
      refine zr_iload_n (pc' := 44) (i := 1) dX12_joins_43 rfl rfl rfl ?_
      refine zn_callS (pc' := 47) (args := [.inl l1]) (st := [.inr (.inr 102)]) (st' := fun r3 => [.inl r3, .inr (.inr 102)]) dX12_joins_44 rfl cs_X12_290 ⟨rfl, rfl, by decide, by decide⟩ rfl rfl rfl (Nat.le_of_ble_eq_true rfl) (fun _ => rfl) h ?_
      intro r3 M4 h
      refine zn_callV (pc' := 50) (args := [.inl r3]) (st := []) (st' := fun _ => []) dX12_joins_47 rfl cv_X12_339 ⟨rfl, rfl, by decide, by decide⟩ rfl ps_102 kd_102 rfl rfl (Nat.le_of_ble_eq_true rfl) (fun _ => rfl) h ?_
      intro r5 M6 h
      refine zr_aload_n (pc' := 51) (i := 0) dX12_joins_50 rfl rfl rfl ?_
      refine zr_iload_n (pc' := 52) (i := 1) dX12_joins_51 rfl rfl rfl ?_
      refine zr_iload_n (pc' := 53) (i := 3) dX12_joins_52 rfl rfl rfl ?_
      refine zn_callV (pc' := 56) (args := [.inl l1, .inl r1]) (st := []) (st' := fun _ => []) dX12_joins_53 rfl cv_X12_303 ⟨rfl, rfl, by decide, by decide⟩ rfl ps_102 kd_102 rfl rfl (Nat.le_of_ble_eq_true rfl) (fun _ => rfl) h ?_
      intro r7 M8 h
      refine zr_aload_n (pc' := 57) (i := 0) dX12_joins_56 rfl rfl rfl ?_
      refine zr_iload_n (pc' := 58) (i := 2) dX12_joins_57 rfl rfl rfl ?_
      refine zr_if_ne (tgt := 74) (pc' := 61) dX12_joins_58 rfl rfl (zRd rfl) (fun hc => absurd hc (by decide)) (fun _ => ?_)
      refine zr_iload_n (pc' := 62) (i := 1) dX12_joins_61 rfl rfl rfl ?_
      refine zr_bipush (pc' := 64) dX12_joins_62 rfl rfl ?_
      refine zr_icmp_ge (tgt := 78) (pc' := 67) dX12_joins_64 rfl rfl h.1 (zRd rfl) (fun hc => ?_) (fun hc => ?_)
      · have h := h.2.1 hc
        refine zr_iconst (pc' := 79) dX12_joins_78 rfl ?_
        refine zr_put (pc' := 82) dX12_joins_79 rfl ps_102 kd_102 fl_X12_329 kc_12 rfl nf_102_47 rfl (Or.inl rfl) (fun M9 hM1 => ?_)
        have h := h M9 hM1
        refine zr_aload_n (pc' := 83) (i := 0) dX12_joins_82 rfl rfl rfl ?_
        refine zr_iload_n (pc' := 84) (i := 1) dX12_joins_83 rfl rfl rfl ?_
        refine zr_bipush (pc' := 86) dX12_joins_84 rfl rfl ?_
        refine zr_icmp_le (tgt := 93) (pc' := 89) dX12_joins_86 rfl rfl h.1 (zRd rfl) (fun hc => ?_) (fun hc => ?_)
        · have h := h.2.1 hc
          refine zr_iconst (pc' := 94) dX12_joins_93 rfl ?_
          refine zr_put (pc' := 97) dX12_joins_94 rfl ps_102 kd_102 fl_X12_307 kc_12 rfl nf_102_49 rfl (Or.inl rfl) (fun M10 hM1 => ?_)
          have h := h M10 hM1
          refine zr_aload_n (pc' := 98) (i := 0) dX12_joins_97 rfl rfl rfl ?_
          refine zr_iconst (pc' := 99) dX12_joins_98 rfl ?_
          refine zr_put (pc' := 102) dX12_joins_99 rfl ps_102 kd_102 fl_X12_326 kc_12 rfl nf_102_48 rfl (Or.inr rfl) (fun M11 hM1 => ?_)
          have h := h M11 hM1
          refine zr_aload_n (pc' := 103) (i := 0) dX12_joins_102 rfl rfl rfl ?_
          refine zn_callV (pc' := 106) (args := []) (st := []) (st' := fun _ => []) dX12_joins_103 rfl cv_X12_311 ⟨rfl, rfl, by decide, by decide⟩ rfl ps_102 kd_102 rfl rfl (Nat.le_of_ble_eq_true rfl) (fun _ => rfl) h ?_
          intro r12 M13 h
          refine zr_iconst (pc' := 107) dX12_joins_106 rfl ?_
          exact zr_ireturn dX12_joins_107 rfl rfl (Or.inr rfl) (Nat.le_refl _) (Nat.le_refl _) (And.intro rfl h)
        · have h := h.2.2 hc
          refine zr_iconst (pc' := 90) dX12_joins_89 rfl ?_
          refine zr_goto (pc' := 94) dX12_joins_90 rfl ?_
          refine zr_put (pc' := 97) dX12_joins_94 rfl ps_102 kd_102 fl_X12_307 kc_12 rfl nf_102_49 rfl (Or.inr rfl) (fun M14 hM1 => ?_)
          have h := h M14 hM1
          refine zr_aload_n (pc' := 98) (i := 0) dX12_joins_97 rfl rfl rfl ?_
          refine zr_iconst (pc' := 99) dX12_joins_98 rfl ?_
          refine zr_put (pc' := 102) dX12_joins_99 rfl ps_102 kd_102 fl_X12_326 kc_12 rfl nf_102_48 rfl (Or.inr rfl) (fun M15 hM1 => ?_)
          have h := h M15 hM1
          refine zr_aload_n (pc' := 103) (i := 0) dX12_joins_102 rfl rfl rfl ?_
          refine zn_callV (pc' := 106) (args := []) (st := []) (st' := fun _ => []) dX12_joins_103 rfl cv_X12_311 ⟨rfl, rfl, by decide, by decide⟩ rfl ps_102 kd_102 rfl rfl (Nat.le_of_ble_eq_true rfl) (fun _ => rfl) h ?_
          intro r16 M17 h
          refine zr_iconst (pc' := 107) dX12_joins_106 rfl ?_
          exact zr_ireturn dX12_joins_107 rfl rfl (Or.inr rfl) (Nat.le_refl _) (Nat.le_refl _) (And.intro rfl h)
      · have h := h.2.2 hc
        refine zr_aload_n (pc' := 68) (i := 0) dX12_joins_67 rfl rfl rfl ?_
        refine zr_get (pc' := 71) dX12_joins_68 rfl ps_102 kd_102 fl_X12_329 kc_12 (gv_102_47 _) ?_
        refine zr_if_eq (tgt := 78) (pc' := 74) dX12_joins_71 rfl rfl h.1 (fun hc => ?_) (fun hc => ?_)
        · have h := h.2.1 hc
          refine zr_iconst (pc' := 79) dX12_joins_78 rfl ?_
          refine zr_put (pc' := 82) dX12_joins_79 rfl ps_102 kd_102 fl_X12_329 kc_12 rfl nf_102_47 rfl (Or.inl rfl) (fun M18 hM1 => ?_)
          have h := h M18 hM1
          refine zr_aload_n (pc' := 83) (i := 0) dX12_joins_82 rfl rfl rfl ?_
          refine zr_iload_n (pc' := 84) (i := 1) dX12_joins_83 rfl rfl rfl ?_
          refine zr_bipush (pc' := 86) dX12_joins_84 rfl rfl ?_
          refine zr_icmp_le (tgt := 93) (pc' := 89) dX12_joins_86 rfl rfl h.1 (zRd rfl) (fun hc => ?_) (fun hc => ?_)
          · have h := h.2.1 hc
            refine zr_iconst (pc' := 94) dX12_joins_93 rfl ?_
            refine zr_put (pc' := 97) dX12_joins_94 rfl ps_102 kd_102 fl_X12_307 kc_12 rfl nf_102_49 rfl (Or.inl rfl) (fun M19 hM1 => ?_)
            have h := h M19 hM1
            refine zr_aload_n (pc' := 98) (i := 0) dX12_joins_97 rfl rfl rfl ?_
            refine zr_iconst (pc' := 99) dX12_joins_98 rfl ?_
            refine zr_put (pc' := 102) dX12_joins_99 rfl ps_102 kd_102 fl_X12_326 kc_12 rfl nf_102_48 rfl (Or.inr rfl) (fun M20 hM1 => ?_)
            have h := h M20 hM1
            refine zr_aload_n (pc' := 103) (i := 0) dX12_joins_102 rfl rfl rfl ?_
            refine zn_callV (pc' := 106) (args := []) (st := []) (st' := fun _ => []) dX12_joins_103 rfl cv_X12_311 ⟨rfl, rfl, by decide, by decide⟩ rfl ps_102 kd_102 rfl rfl (Nat.le_of_ble_eq_true rfl) (fun _ => rfl) h ?_
            intro r21 M22 h
            refine zr_iconst (pc' := 107) dX12_joins_106 rfl ?_
            exact zr_ireturn dX12_joins_107 rfl rfl (Or.inr rfl) (Nat.le_refl _) (Nat.le_refl _) (And.intro rfl h)
          · have h := h.2.2 hc
            refine zr_iconst (pc' := 90) dX12_joins_89 rfl ?_
            refine zr_goto (pc' := 94) dX12_joins_90 rfl ?_
            refine zr_put (pc' := 97) dX12_joins_94 rfl ps_102 kd_102 fl_X12_307 kc_12 rfl nf_102_49 rfl (Or.inr rfl) (fun M23 hM1 => ?_)
            have h := h M23 hM1
            refine zr_aload_n (pc' := 98) (i := 0) dX12_joins_97 rfl rfl rfl ?_
            refine zr_iconst (pc' := 99) dX12_joins_98 rfl ?_
            refine zr_put (pc' := 102) dX12_joins_99 rfl ps_102 kd_102 fl_X12_326 kc_12 rfl nf_102_48 rfl (Or.inr rfl) (fun M24 hM1 => ?_)
            have h := h M24 hM1
            refine zr_aload_n (pc' := 103) (i := 0) dX12_joins_102 rfl rfl rfl ?_
            refine zn_callV (pc' := 106) (args := []) (st := []) (st' := fun _ => []) dX12_joins_103 rfl cv_X12_311 ⟨rfl, rfl, by decide, by decide⟩ rfl ps_102 kd_102 rfl rfl (Nat.le_of_ble_eq_true rfl) (fun _ => rfl) h ?_
            intro r25 M26 h
            refine zr_iconst (pc' := 107) dX12_joins_106 rfl ?_
            exact zr_ireturn dX12_joins_107 rfl rfl (Or.inr rfl) (Nat.le_refl _) (Nat.le_refl _) (And.intro rfl h)
        · have h := h.2.2 hc
          refine zr_iconst (pc' := 75) dX12_joins_74 rfl ?_
          refine zr_goto (pc' := 79) dX12_joins_75 rfl ?_
          refine zr_put (pc' := 82) dX12_joins_79 rfl ps_102 kd_102 fl_X12_329 kc_12 rfl nf_102_47 rfl (Or.inr rfl) (fun M27 hM1 => ?_)
          have h := h M27 hM1
          refine zr_aload_n (pc' := 83) (i := 0) dX12_joins_82 rfl rfl rfl ?_
          refine zr_iload_n (pc' := 84) (i := 1) dX12_joins_83 rfl rfl rfl ?_
          refine zr_bipush (pc' := 86) dX12_joins_84 rfl rfl ?_
          refine zr_icmp_le (tgt := 93) (pc' := 89) dX12_joins_86 rfl rfl h.1 (zRd rfl) (fun hc => ?_) (fun hc => ?_)
          · have h := h.2.1 hc
            refine zr_iconst (pc' := 94) dX12_joins_93 rfl ?_
            refine zr_put (pc' := 97) dX12_joins_94 rfl ps_102 kd_102 fl_X12_307 kc_12 rfl nf_102_49 rfl (Or.inl rfl) (fun M28 hM1 => ?_)
            have h := h M28 hM1
            refine zr_aload_n (pc' := 98) (i := 0) dX12_joins_97 rfl rfl rfl ?_
            refine zr_iconst (pc' := 99) dX12_joins_98 rfl ?_
            refine zr_put (pc' := 102) dX12_joins_99 rfl ps_102 kd_102 fl_X12_326 kc_12 rfl nf_102_48 rfl (Or.inr rfl) (fun M29 hM1 => ?_)
            have h := h M29 hM1
            refine zr_aload_n (pc' := 103) (i := 0) dX12_joins_102 rfl rfl rfl ?_
            refine zn_callV (pc' := 106) (args := []) (st := []) (st' := fun _ => []) dX12_joins_103 rfl cv_X12_311 ⟨rfl, rfl, by decide, by decide⟩ rfl ps_102 kd_102 rfl rfl (Nat.le_of_ble_eq_true rfl) (fun _ => rfl) h ?_
            intro r30 M31 h
            refine zr_iconst (pc' := 107) dX12_joins_106 rfl ?_
            exact zr_ireturn dX12_joins_107 rfl rfl (Or.inr rfl) (Nat.le_refl _) (Nat.le_refl _) (And.intro rfl h)
          · have h := h.2.2 hc
            refine zr_iconst (pc' := 90) dX12_joins_89 rfl ?_
            refine zr_goto (pc' := 94) dX12_joins_90 rfl ?_
            refine zr_put (pc' := 97) dX12_joins_94 rfl ps_102 kd_102 fl_X12_307 kc_12 rfl nf_102_49 rfl (Or.inr rfl) (fun M32 hM1 => ?_)
            have h := h M32 hM1
            refine zr_aload_n (pc' := 98) (i := 0) dX12_joins_97 rfl rfl rfl ?_
            refine zr_iconst (pc' := 99) dX12_joins_98 rfl ?_
            refine zr_put (pc' := 102) dX12_joins_99 rfl ps_102 kd_102 fl_X12_326 kc_12 rfl nf_102_48 rfl (Or.inr rfl) (fun M33 hM1 => ?_)
            have h := h M33 hM1
            refine zr_aload_n (pc' := 103) (i := 0) dX12_joins_102 rfl rfl rfl ?_
            refine zn_callV (pc' := 106) (args := []) (st := []) (st' := fun _ => []) dX12_joins_103 rfl cv_X12_311 ⟨rfl, rfl, by decide, by decide⟩ rfl ps_102 kd_102 rfl rfl (Nat.le_of_ble_eq_true rfl) (fun _ => rfl) h ?_
            intro r34 M35 h
            refine zr_iconst (pc' := 107) dX12_joins_106 rfl ?_
            exact zr_ireturn dX12_joins_107 rfl rfl (Or.inr rfl) (Nat.le_refl _) (Nat.le_refl _) (And.intro rfl h)
    · have h := h.2.2 hc
      refine zr_iconst (pc' := 41) dX12_joins_40 rfl ?_
      exact zr_ireturn dX12_joins_41 rfl rfl (Or.inl rfl) (Nat.le_refl _) (Nat.le_refl _) (And.intro rfl h)
  · have h := h.2.2 hc
    refine zr_iconst (pc' := 7) dX12_joins_6 rfl ?_
    refine zr_goto (pc' := 11) dX12_joins_7 rfl ?_
    refine zr_istore_n (pc' := 12) (i := 2) (al' := [(2, .inl 1), (0, .inr (.inr 102)), (1, .inl l1)]) dX12_joins_11 rfl rfl (by decide) rfl ?_
    refine zr_iload_n (pc' := 13) (i := 2) dX12_joins_12 rfl rfl rfl ?_
    refine zr_if_eq (tgt := 29) (pc' := 16) dX12_joins_13 rfl rfl (zRd rfl) (fun hc => absurd hc (by decide)) (fun _ => ?_)
    refine zr_aload_n (pc' := 17) (i := 0) dX12_joins_16 rfl rfl rfl ?_
    refine zr_get (pc' := 20) dX12_joins_17 rfl ps_102 kd_102 fl_X12_329 kc_12 (gv_102_47 _) ?_
    refine zr_if_eq (tgt := 29) (pc' := 23) dX12_joins_20 rfl rfl h.1 (fun hc => ?_) (fun hc => ?_)
    · have h := h.2.1 hc
      refine zr_aload_n (pc' := 30) (i := 0) dX12_joins_29 rfl rfl rfl ?_
      refine zr_iload_n (pc' := 31) (i := 1) dX12_joins_30 rfl rfl rfl ?_
      refine zr_iconst (pc' := 32) dX12_joins_31 rfl ?_
      refine zn_callV (pc' := 35) (args := [.inl l1, .inl 0]) (st := []) (st' := fun r36 => [.inl r36]) dX12_joins_32 rfl cv_X12_300 ⟨rfl, rfl, by decide, by decide⟩ rfl ps_102 kd_102 rfl rfl (Nat.le_of_ble_eq_true rfl) (fun _ => rfl) h ?_
      intro r36 M37 h
      refine zr_istore_n (pc' := 36) (i := 3) (al' := [(3, .inl r36), (2, .inl 1), (0, .inr (.inr 102)), (1, .inl l1)]) dX12_joins_35 rfl rfl (by decide) rfl ?_
      refine zr_iload_n (pc' := 37) (i := 3) dX12_joins_36 rfl rfl rfl ?_
      refine zr_if_ge (tgt := 42) (pc' := 40) dX12_joins_37 rfl rfl h.1 (fun hc => ?_) (fun hc => ?_)
      · have h := h.2.1 hc
        refine zr_aload_n (pc' := 43) (i := 0) dX12_joins_42 rfl rfl rfl ?_
        refine zr_iload_n (pc' := 44) (i := 1) dX12_joins_43 rfl rfl rfl ?_
        refine zn_callS (pc' := 47) (args := [.inl l1]) (st := [.inr (.inr 102)]) (st' := fun r38 => [.inl r38, .inr (.inr 102)]) dX12_joins_44 rfl cs_X12_290 ⟨rfl, rfl, by decide, by decide⟩ rfl rfl rfl (Nat.le_of_ble_eq_true rfl) (fun _ => rfl) h ?_
        intro r38 M39 h
        refine zn_callV (pc' := 50) (args := [.inl r38]) (st := []) (st' := fun _ => []) dX12_joins_47 rfl cv_X12_339 ⟨rfl, rfl, by decide, by decide⟩ rfl ps_102 kd_102 rfl rfl (Nat.le_of_ble_eq_true rfl) (fun _ => rfl) h ?_
        intro r40 M41 h
        refine zr_aload_n (pc' := 51) (i := 0) dX12_joins_50 rfl rfl rfl ?_
        refine zr_iload_n (pc' := 52) (i := 1) dX12_joins_51 rfl rfl rfl ?_
        refine zr_iload_n (pc' := 53) (i := 3) dX12_joins_52 rfl rfl rfl ?_
        refine zn_callV (pc' := 56) (args := [.inl l1, .inl r36]) (st := []) (st' := fun _ => []) dX12_joins_53 rfl cv_X12_303 ⟨rfl, rfl, by decide, by decide⟩ rfl ps_102 kd_102 rfl rfl (Nat.le_of_ble_eq_true rfl) (fun _ => rfl) h ?_
        intro r42 M43 h
        refine zr_aload_n (pc' := 57) (i := 0) dX12_joins_56 rfl rfl rfl ?_
        refine zr_iload_n (pc' := 58) (i := 2) dX12_joins_57 rfl rfl rfl ?_
        refine zr_if_ne (tgt := 74) (pc' := 61) dX12_joins_58 rfl rfl (zRd rfl) (fun _ => ?_) (fun hc => absurd hc (by decide))
        refine zr_iconst (pc' := 75) dX12_joins_74 rfl ?_
        refine zr_goto (pc' := 79) dX12_joins_75 rfl ?_
        refine zr_put (pc' := 82) dX12_joins_79 rfl ps_102 kd_102 fl_X12_329 kc_12 rfl nf_102_47 rfl (Or.inr rfl) (fun M44 hM1 => ?_)
        have h := h M44 hM1
        refine zr_aload_n (pc' := 83) (i := 0) dX12_joins_82 rfl rfl rfl ?_
        refine zr_iload_n (pc' := 84) (i := 1) dX12_joins_83 rfl rfl rfl ?_
        refine zr_bipush (pc' := 86) dX12_joins_84 rfl rfl ?_
        refine zr_icmp_le (tgt := 93) (pc' := 89) dX12_joins_86 rfl rfl h.1 (zRd rfl) (fun hc => ?_) (fun hc => ?_)
        · have h := h.2.1 hc
          refine zr_iconst (pc' := 94) dX12_joins_93 rfl ?_
          refine zr_put (pc' := 97) dX12_joins_94 rfl ps_102 kd_102 fl_X12_307 kc_12 rfl nf_102_49 rfl (Or.inl rfl) (fun M45 hM1 => ?_)
          have h := h M45 hM1
          refine zr_aload_n (pc' := 98) (i := 0) dX12_joins_97 rfl rfl rfl ?_
          refine zr_iconst (pc' := 99) dX12_joins_98 rfl ?_
          refine zr_put (pc' := 102) dX12_joins_99 rfl ps_102 kd_102 fl_X12_326 kc_12 rfl nf_102_48 rfl (Or.inr rfl) (fun M46 hM1 => ?_)
          have h := h M46 hM1
          refine zr_aload_n (pc' := 103) (i := 0) dX12_joins_102 rfl rfl rfl ?_
          refine zn_callV (pc' := 106) (args := []) (st := []) (st' := fun _ => []) dX12_joins_103 rfl cv_X12_311 ⟨rfl, rfl, by decide, by decide⟩ rfl ps_102 kd_102 rfl rfl (Nat.le_of_ble_eq_true rfl) (fun _ => rfl) h ?_
          intro r47 M48 h
          refine zr_iconst (pc' := 107) dX12_joins_106 rfl ?_
          exact zr_ireturn dX12_joins_107 rfl rfl (Or.inr rfl) (Nat.le_refl _) (Nat.le_refl _) (And.intro rfl h)
        · have h := h.2.2 hc
          refine zr_iconst (pc' := 90) dX12_joins_89 rfl ?_
          refine zr_goto (pc' := 94) dX12_joins_90 rfl ?_
          refine zr_put (pc' := 97) dX12_joins_94 rfl ps_102 kd_102 fl_X12_307 kc_12 rfl nf_102_49 rfl (Or.inr rfl) (fun M49 hM1 => ?_)
          have h := h M49 hM1
          refine zr_aload_n (pc' := 98) (i := 0) dX12_joins_97 rfl rfl rfl ?_
          refine zr_iconst (pc' := 99) dX12_joins_98 rfl ?_
          refine zr_put (pc' := 102) dX12_joins_99 rfl ps_102 kd_102 fl_X12_326 kc_12 rfl nf_102_48 rfl (Or.inr rfl) (fun M50 hM1 => ?_)
          have h := h M50 hM1
          refine zr_aload_n (pc' := 103) (i := 0) dX12_joins_102 rfl rfl rfl ?_
          refine zn_callV (pc' := 106) (args := []) (st := []) (st' := fun _ => []) dX12_joins_103 rfl cv_X12_311 ⟨rfl, rfl, by decide, by decide⟩ rfl ps_102 kd_102 rfl rfl (Nat.le_of_ble_eq_true rfl) (fun _ => rfl) h ?_
          intro r51 M52 h
          refine zr_iconst (pc' := 107) dX12_joins_106 rfl ?_
          exact zr_ireturn dX12_joins_107 rfl rfl (Or.inr rfl) (Nat.le_refl _) (Nat.le_refl _) (And.intro rfl h)
      · have h := h.2.2 hc
        refine zr_iconst (pc' := 41) dX12_joins_40 rfl ?_
        exact zr_ireturn dX12_joins_41 rfl rfl (Or.inl rfl) (Nat.le_refl _) (Nat.le_refl _) (And.intro rfl h)
    · have h := h.2.2 hc
      refine zr_aload_n (pc' := 24) (i := 0) dX12_joins_23 rfl rfl rfl ?_
      refine zr_iconst (pc' := 25) dX12_joins_24 rfl ?_
      refine zn_callV (pc' := 28) (args := [.inl 1]) (st := []) (st' := fun r53 => [.inl r53]) dX12_joins_25 rfl cv_X12_278 ⟨rfl, rfl, by decide, by decide⟩ rfl ps_102 kd_102 rfl rfl (Nat.le_of_ble_eq_true rfl) (fun _ => rfl) h ?_
      intro r53 M54 h
      exact zr_ireturn dX12_joins_28 rfl rfl h.1 (Nat.le_refl _) (Nat.le_refl _) (And.intro rfl h.2)
set_option maxRecDepth 20000 in
theorem vcX12_expression {E : zE} {M : zM} {Q : Int → zM → Prop} (I30 : Nat → zM → Prop)
    (h : (∀ M1, M1 = zup M 102 42 0 → (∀ M2, M2 = zup M1 102 44 0 → (∀ M3, M3 = zup M2 102 46 0 → (∀ M4, M4 = zup M3 102 47 0 → (∀ M5, M5 = zup M4 102 48 1 → (∀ M6, M6 = zup M5 102 49 1 → ∃ n', I30 n'  M6)))))))
    (h30 : ∀ (n : Nat) (M : zM), I30 n  M → ((zR (M 102 48)) ∧ (((M 102 48) = 0 → (zP E mX12_signNow [.inr (.inr 102)] M (fun r7 M8 => ((zR r7) ∧ ((r7 < 0 → ((zR (M8 102 46)) ∧ (((M8 102 46) ≤ 0 → ((zR (M8 102 46)) ∧ (((M8 102 46) ≤ 0 → (zP E mX12_bind [.inr (.inr 102), .inl 1] M8 (fun r9 M10 => Q 1 M10))) ∧ (0 < (M8 102 46) → (zP E mX12_wrong [.inr (.inr 102), .inl 1] M8 (fun r11 M12 => ((zR r11) ∧ ((¬ r11 = 0 → ∃ n', n' < n ∧ I30 n'  M12) ∧ (r11 = 0 → Q 0 M12))))))))) ∧ (0 < (M8 102 46) → (zP E mX12_isSign [.inr (.inr 102), .inl 41] M8 (fun r13 M14 => ((zR r13) ∧ ((r13 = 0 → ((zR (M14 102 46)) ∧ (((M14 102 46) ≤ 0 → (zP E mX12_bind [.inr (.inr 102), .inl 1] M14 (fun r15 M16 => Q 1 M16))) ∧ (0 < (M14 102 46) → (zP E mX12_wrong [.inr (.inr 102), .inl 1] M14 (fun r17 M18 => ((zR r17) ∧ ((¬ r17 = 0 → ∃ n', n' < n ∧ I30 n'  M18) ∧ (r17 = 0 → Q 0 M18))))))))) ∧ (¬ r13 = 0 → (zP E mX12_bind [.inr (.inr 102), .inl 1] M14 (fun r19 M20 => (∀ M21, M21 = zup M20 102 42 ((M20 102 42) - 1) → (∀ M22, M22 = zup M21 102 46 ((M21 102 46) - 1) → (0 ≤ M22 102 46 ∧ M22 102 46 < 8) ∧ (M22 126 ((M22 102 46).toNat) = 0 ∨ M22 126 ((M22 102 46).toNat) = 1) ∧ (∀ M23, M23 = zup M22 102 47 (M22 126 ((M22 102 46).toNat)) → (zP E mX12_take [.inr (.inr 102)] M23 (fun r24 M25 => ∃ n', n' < n ∧ I30 n'  M25)))))))))))))))) ∧ (0 ≤ r7 → (zP E mX12_signNow [.inr (.inr 102)] M8 (fun r26 M27 => (zP E mX12_joins [.inr (.inr 102), .inl r26] M27 (fun r28 M29 => ((zR r28) ∧ ((¬ r28 = 0 → ∃ n', n' < n ∧ I30 n'  M29) ∧ (r28 = 0 → Q 0 M29))))))))))))) ∧ (¬ (M 102 48) = 0 → (zP E mX12_valueRead [.inr (.inr 102)] M (fun r30 M31 => ((zR r30) ∧ ((¬ r30 = 0 → ∃ n', n' < n ∧ I30 n'  M31) ∧ (r30 = 0 → Q 0 M31)))))))))
    : zP E mX12_expression [.inr (.inr 102)] M Q := by
  have key : ∀ n : Nat, (∀ (M : zM), I30 n  M → zA E zNN (0, 0) mX12_expression 30 [(0, .inr (.inr 102))] [] M (zQ Q)) := by
    intro n
    induction n using Nat.strongRecOn with
    | ind n ih =>
      intro  M h
      have h := h30 n  M h
      refine zr_iconst (pc' := 31) dX12_expression_30 rfl ?_
      refine zr_istore_n (pc' := 32) (i := 1) (al' := [(1, .inl 1), (0, .inr (.inr 102))]) dX12_expression_31 rfl rfl (by decide) rfl ?_
      refine zr_aload_n (pc' := 33) (i := 0) dX12_expression_32 rfl rfl rfl ?_
      refine zr_get (pc' := 36) dX12_expression_33 rfl ps_102 kd_102 fl_X12_326 kc_12 (gv_102_48 _) ?_
      refine zr_if_eq (tgt := 47) (pc' := 39) dX12_expression_36 rfl rfl h.1 (fun hc => ?_) (fun hc => ?_)
      · have h := h.2.1 hc
        refine zr_aload_n (pc' := 48) (i := 0) dX12_expression_47 rfl rfl rfl ?_
        refine zn_callV (pc' := 51) (args := []) (st := []) (st' := fun r7 => [.inl r7]) dX12_expression_48 rfl cv_X12_345 ⟨rfl, rfl, by decide, by decide⟩ rfl ps_102 kd_102 rfl rfl (Nat.le_of_ble_eq_true rfl) (fun _ => rfl) h ?_
        intro r7 M8 h
        refine zr_if_lt (tgt := 66) (pc' := 54) dX12_expression_51 rfl rfl h.1 (fun hc => ?_) (fun hc => ?_)
        · have h := h.2.1 hc
          refine zr_aload_n (pc' := 67) (i := 0) dX12_expression_66 rfl rfl rfl ?_
          refine zr_get (pc' := 70) dX12_expression_67 rfl ps_102 kd_102 fl_X12_317 kc_12 (gv_102_46 _) ?_
          refine zr_if_le (tgt := 127) (pc' := 73) dX12_expression_70 rfl rfl h.1 (fun hc => ?_) (fun hc => ?_)
          · have h := h.2.1 hc
            refine zr_aload_n (pc' := 128) (i := 0) dX12_expression_127 rfl rfl rfl ?_
            refine zr_get (pc' := 131) dX12_expression_128 rfl ps_102 kd_102 fl_X12_317 kc_12 (gv_102_46 _) ?_
            refine zr_if_le (tgt := 143) (pc' := 134) dX12_expression_131 rfl rfl h.1 (fun hc => ?_) (fun hc => ?_)
            · have h := h.2.1 hc
              refine zr_aload_n (pc' := 144) (i := 0) dX12_expression_143 rfl rfl rfl ?_
              refine zr_iconst (pc' := 145) dX12_expression_144 rfl ?_
              refine zn_callV (pc' := 148) (args := [.inl 1]) (st := []) (st' := fun _ => []) dX12_expression_145 rfl cv_X12_339 ⟨rfl, rfl, by decide, by decide⟩ rfl ps_102 kd_102 rfl rfl (Nat.le_of_ble_eq_true rfl) (fun _ => rfl) h ?_
              intro r9 M10 h
              refine zr_iconst (pc' := 149) dX12_expression_148 rfl ?_
              exact zr_ireturn dX12_expression_149 rfl rfl (Or.inr rfl) (Nat.le_refl _) (Nat.le_refl _) (And.intro rfl h)
            · have h := h.2.2 hc
              refine zr_aload_n (pc' := 135) (i := 0) dX12_expression_134 rfl rfl rfl ?_
              refine zr_iconst (pc' := 136) dX12_expression_135 rfl ?_
              refine zn_callV (pc' := 139) (args := [.inl 1]) (st := []) (st' := fun r11 => [.inl r11]) dX12_expression_136 rfl cv_X12_278 ⟨rfl, rfl, by decide, by decide⟩ rfl ps_102 kd_102 rfl rfl (Nat.le_of_ble_eq_true rfl) (fun _ => rfl) h ?_
              intro r11 M12 h
              refine zr_istore_n (pc' := 140) (i := 1) (al' := [(1, .inl r11), (0, .inr (.inr 102))]) dX12_expression_139 rfl rfl (by decide) rfl ?_
              refine zr_goto (pc' := 150) dX12_expression_140 rfl ?_
              refine zr_iload_n (pc' := 151) (i := 1) dX12_expression_150 rfl rfl rfl ?_
              refine zr_if_ne (tgt := 156) (pc' := 154) dX12_expression_151 rfl rfl h.1 (fun hc => ?_) (fun hc => ?_)
              · have h := h.2.1 hc
                refine zr_goto (pc' := 30) dX12_expression_156 rfl ?_
                obtain ⟨n', hn, h⟩ := h
                exact zn_al ((ih n' hn)  _ h) ⟨rfl, trivial⟩
              · have h := h.2.2 hc
                refine zr_iconst (pc' := 155) dX12_expression_154 rfl ?_
                exact zr_ireturn dX12_expression_155 rfl rfl (Or.inl rfl) (Nat.le_refl _) (Nat.le_refl _) (And.intro rfl h)
          · have h := h.2.2 hc
            refine zr_aload_n (pc' := 74) (i := 0) dX12_expression_73 rfl rfl rfl ?_
            refine zr_bipush (pc' := 76) dX12_expression_74 rfl rfl ?_
            refine zn_callV (pc' := 79) (args := [.inl 41]) (st := []) (st' := fun r13 => [.inl r13]) dX12_expression_76 rfl cv_X12_314 ⟨rfl, rfl, by decide, by decide⟩ rfl ps_102 kd_102 rfl rfl (Nat.le_of_ble_eq_true rfl) (fun _ => rfl) h ?_
            intro r13 M14 h
            refine zr_if_eq (tgt := 127) (pc' := 82) dX12_expression_79 rfl rfl h.1 (fun hc => ?_) (fun hc => ?_)
            · have h := h.2.1 hc
              refine zr_aload_n (pc' := 128) (i := 0) dX12_expression_127 rfl rfl rfl ?_
              refine zr_get (pc' := 131) dX12_expression_128 rfl ps_102 kd_102 fl_X12_317 kc_12 (gv_102_46 _) ?_
              refine zr_if_le (tgt := 143) (pc' := 134) dX12_expression_131 rfl rfl h.1 (fun hc => ?_) (fun hc => ?_)
              · have h := h.2.1 hc
                refine zr_aload_n (pc' := 144) (i := 0) dX12_expression_143 rfl rfl rfl ?_
                refine zr_iconst (pc' := 145) dX12_expression_144 rfl ?_
                refine zn_callV (pc' := 148) (args := [.inl 1]) (st := []) (st' := fun _ => []) dX12_expression_145 rfl cv_X12_339 ⟨rfl, rfl, by decide, by decide⟩ rfl ps_102 kd_102 rfl rfl (Nat.le_of_ble_eq_true rfl) (fun _ => rfl) h ?_
                intro r15 M16 h
                refine zr_iconst (pc' := 149) dX12_expression_148 rfl ?_
                exact zr_ireturn dX12_expression_149 rfl rfl (Or.inr rfl) (Nat.le_refl _) (Nat.le_refl _) (And.intro rfl h)
              · have h := h.2.2 hc
                refine zr_aload_n (pc' := 135) (i := 0) dX12_expression_134 rfl rfl rfl ?_
                refine zr_iconst (pc' := 136) dX12_expression_135 rfl ?_
                refine zn_callV (pc' := 139) (args := [.inl 1]) (st := []) (st' := fun r17 => [.inl r17]) dX12_expression_136 rfl cv_X12_278 ⟨rfl, rfl, by decide, by decide⟩ rfl ps_102 kd_102 rfl rfl (Nat.le_of_ble_eq_true rfl) (fun _ => rfl) h ?_
                intro r17 M18 h
                refine zr_istore_n (pc' := 140) (i := 1) (al' := [(1, .inl r17), (0, .inr (.inr 102))]) dX12_expression_139 rfl rfl (by decide) rfl ?_
                refine zr_goto (pc' := 150) dX12_expression_140 rfl ?_
                refine zr_iload_n (pc' := 151) (i := 1) dX12_expression_150 rfl rfl rfl ?_
                refine zr_if_ne (tgt := 156) (pc' := 154) dX12_expression_151 rfl rfl h.1 (fun hc => ?_) (fun hc => ?_)
                · have h := h.2.1 hc
                  refine zr_goto (pc' := 30) dX12_expression_156 rfl ?_
                  obtain ⟨n', hn, h⟩ := h
                  exact zn_al ((ih n' hn)  _ h) ⟨rfl, trivial⟩
                · have h := h.2.2 hc
                  refine zr_iconst (pc' := 155) dX12_expression_154 rfl ?_
                  exact zr_ireturn dX12_expression_155 rfl rfl (Or.inl rfl) (Nat.le_refl _) (Nat.le_refl _) (And.intro rfl h)
            · have h := h.2.2 hc
              refine zr_aload_n (pc' := 83) (i := 0) dX12_expression_82 rfl rfl rfl ?_
              refine zr_iconst (pc' := 84) dX12_expression_83 rfl ?_
              refine zn_callV (pc' := 87) (args := [.inl 1]) (st := []) (st' := fun _ => []) dX12_expression_84 rfl cv_X12_339 ⟨rfl, rfl, by decide, by decide⟩ rfl ps_102 kd_102 rfl rfl (Nat.le_of_ble_eq_true rfl) (fun _ => rfl) h ?_
              intro r19 M20 h
              refine zr_aload_n (pc' := 88) (i := 0) dX12_expression_87 rfl rfl rfl ?_
              refine zr_dup (pc' := 89) dX12_expression_88 rfl rfl ?_
              refine zr_get (pc' := 92) dX12_expression_89 rfl ps_102 kd_102 fl_X12_287 kc_12 (gv_102_42 _) ?_
              refine zr_iconst (pc' := 93) dX12_expression_92 rfl ?_
              refine zr_isub (pc' := 94) dX12_expression_93 rfl ?_
              refine zr_put (pc' := 97) dX12_expression_94 rfl ps_102 kd_102 fl_X12_287 kc_12 rfl nf_102_42 rfl trivial (fun M21 hM1 => ?_)
              have h := h M21 hM1
              refine zr_aload_n (pc' := 98) (i := 0) dX12_expression_97 rfl rfl rfl ?_
              refine zr_dup (pc' := 99) dX12_expression_98 rfl rfl ?_
              refine zr_get (pc' := 102) dX12_expression_99 rfl ps_102 kd_102 fl_X12_317 kc_12 (gv_102_46 _) ?_
              refine zr_iconst (pc' := 103) dX12_expression_102 rfl ?_
              refine zr_isub (pc' := 104) dX12_expression_103 rfl ?_
              refine zr_put (pc' := 107) dX12_expression_104 rfl ps_102 kd_102 fl_X12_317 kc_12 rfl nf_102_46 rfl trivial (fun M22 hM1 => ?_)
              have h := h M22 hM1
              refine zr_aload_n (pc' := 108) (i := 0) dX12_expression_107 rfl rfl rfl ?_
              refine zr_aload_n (pc' := 109) (i := 0) dX12_expression_108 rfl rfl rfl ?_
              refine zr_get (pc' := 112) dX12_expression_109 rfl ps_102 kd_102 fl_X12_84 kc_12 (gv_102_45 _) ?_
              refine zr_aload_n (pc' := 113) (i := 0) dX12_expression_112 rfl rfl rfl ?_
              refine zr_get (pc' := 116) dX12_expression_113 rfl ps_102 kd_102 fl_X12_317 kc_12 (gv_102_46 _) ?_
              refine zr_zald (pc' := 117) dX12_expression_116 rfl ps_126 kd_126 (by decide) h.1.1 h.1.2 ?_
              have h := h.2
              refine zr_put (pc' := 120) dX12_expression_117 rfl ps_102 kd_102 fl_X12_329 kc_12 rfl nf_102_47 rfl h.1 (fun M23 hM1 => ?_)
              have h := h.2 M23 hM1
              refine zr_aload_n (pc' := 121) (i := 0) dX12_expression_120 rfl rfl rfl ?_
              refine zn_callV (pc' := 124) (args := []) (st := []) (st' := fun _ => []) dX12_expression_121 rfl cv_X12_311 ⟨rfl, rfl, by decide, by decide⟩ rfl ps_102 kd_102 rfl rfl (Nat.le_of_ble_eq_true rfl) (fun _ => rfl) h ?_
              intro r24 M25 h
              refine zr_goto (pc' := 150) dX12_expression_124 rfl ?_
              refine zr_iload_n (pc' := 151) (i := 1) dX12_expression_150 rfl rfl rfl ?_
              refine zr_if_ne (tgt := 156) (pc' := 154) dX12_expression_151 rfl rfl (zRd rfl) (fun _ => ?_) (fun hc => absurd hc (by decide))
              refine zr_goto (pc' := 30) dX12_expression_156 rfl ?_
              obtain ⟨n', hn, h⟩ := h
              exact zn_al ((ih n' hn)  _ h) ⟨rfl, trivial⟩
        · have h := h.2.2 hc
          refine zr_aload_n (pc' := 55) (i := 0) dX12_expression_54 rfl rfl rfl ?_
          refine zr_aload_n (pc' := 56) (i := 0) dX12_expression_55 rfl rfl rfl ?_
          refine zn_callV (pc' := 59) (args := []) (st := [.inr (.inr 102)]) (st' := fun r26 => [.inl r26, .inr (.inr 102)]) dX12_expression_56 rfl cv_X12_345 ⟨rfl, rfl, by decide, by decide⟩ rfl ps_102 kd_102 rfl rfl (Nat.le_of_ble_eq_true rfl) (fun _ => rfl) h ?_
          intro r26 M27 h
          refine zn_callV (pc' := 62) (args := [.inl r26]) (st := []) (st' := fun r28 => [.inl r28]) dX12_expression_59 rfl cv_X12_348 ⟨rfl, rfl, by decide, by decide⟩ rfl ps_102 kd_102 rfl rfl (Nat.le_of_ble_eq_true rfl) (fun _ => rfl) h ?_
          intro r28 M29 h
          refine zr_istore_n (pc' := 63) (i := 1) (al' := [(1, .inl r28), (0, .inr (.inr 102))]) dX12_expression_62 rfl rfl (by decide) rfl ?_
          refine zr_goto (pc' := 150) dX12_expression_63 rfl ?_
          refine zr_iload_n (pc' := 151) (i := 1) dX12_expression_150 rfl rfl rfl ?_
          refine zr_if_ne (tgt := 156) (pc' := 154) dX12_expression_151 rfl rfl h.1 (fun hc => ?_) (fun hc => ?_)
          · have h := h.2.1 hc
            refine zr_goto (pc' := 30) dX12_expression_156 rfl ?_
            obtain ⟨n', hn, h⟩ := h
            exact zn_al ((ih n' hn)  _ h) ⟨rfl, trivial⟩
          · have h := h.2.2 hc
            refine zr_iconst (pc' := 155) dX12_expression_154 rfl ?_
            exact zr_ireturn dX12_expression_155 rfl rfl (Or.inl rfl) (Nat.le_refl _) (Nat.le_refl _) (And.intro rfl h)
      · have h := h.2.2 hc
        refine zr_aload_n (pc' := 40) (i := 0) dX12_expression_39 rfl rfl rfl ?_
        refine zn_callV (pc' := 43) (args := []) (st := []) (st' := fun r30 => [.inl r30]) dX12_expression_40 rfl cv_X12_342 ⟨rfl, rfl, by decide, by decide⟩ rfl ps_102 kd_102 rfl rfl (Nat.le_of_ble_eq_true rfl) (fun _ => rfl) h ?_
        intro r30 M31 h
        refine zr_istore_n (pc' := 44) (i := 1) (al' := [(1, .inl r30), (0, .inr (.inr 102))]) dX12_expression_43 rfl rfl (by decide) rfl ?_
        refine zr_goto (pc' := 150) dX12_expression_44 rfl ?_
        refine zr_iload_n (pc' := 151) (i := 1) dX12_expression_150 rfl rfl rfl ?_
        refine zr_if_ne (tgt := 156) (pc' := 154) dX12_expression_151 rfl rfl h.1 (fun hc => ?_) (fun hc => ?_)
        · have h := h.2.1 hc
          refine zr_goto (pc' := 30) dX12_expression_156 rfl ?_
          obtain ⟨n', hn, h⟩ := h
          exact zn_al ((ih n' hn)  _ h) ⟨rfl, trivial⟩
        · have h := h.2.2 hc
          refine zr_iconst (pc' := 155) dX12_expression_154 rfl ?_
          exact zr_ireturn dX12_expression_155 rfl rfl (Or.inl rfl) (Nat.le_refl _) (Nat.le_refl _) (And.intro rfl h)
  refine zP_of (by decide +kernel) rfl (Nat.le_of_ble_eq_true rfl) ?_
  show zA E zNN (0, 0) mX12_expression 0 [(0, .inr (.inr 102))] [] M (zQ Q)
  refine zr_aload_n (pc' := 1) (i := 0) dX12_expression_0 rfl rfl rfl ?_
  refine zr_iconst (pc' := 2) dX12_expression_1 rfl ?_
  refine zr_put (pc' := 5) dX12_expression_2 rfl ps_102 kd_102 fl_X12_287 kc_12 rfl nf_102_42 rfl trivial (fun M1 hM1 => ?_)
  have h := h M1 hM1
  refine zr_aload_n (pc' := 6) (i := 0) dX12_expression_5 rfl rfl rfl ?_
  refine zr_iconst (pc' := 7) dX12_expression_6 rfl ?_
  refine zr_put (pc' := 10) dX12_expression_7 rfl ps_102 kd_102 fl_X12_284 kc_12 rfl nf_102_44 rfl trivial (fun M2 hM1 => ?_)
  have h := h M2 hM1
  refine zr_aload_n (pc' := 11) (i := 0) dX12_expression_10 rfl rfl rfl ?_
  refine zr_iconst (pc' := 12) dX12_expression_11 rfl ?_
  refine zr_put (pc' := 15) dX12_expression_12 rfl ps_102 kd_102 fl_X12_317 kc_12 rfl nf_102_46 rfl trivial (fun M3 hM1 => ?_)
  have h := h M3 hM1
  refine zr_aload_n (pc' := 16) (i := 0) dX12_expression_15 rfl rfl rfl ?_
  refine zr_iconst (pc' := 17) dX12_expression_16 rfl ?_
  refine zr_put (pc' := 20) dX12_expression_17 rfl ps_102 kd_102 fl_X12_329 kc_12 rfl nf_102_47 rfl (Or.inl rfl) (fun M4 hM1 => ?_)
  have h := h M4 hM1
  refine zr_aload_n (pc' := 21) (i := 0) dX12_expression_20 rfl rfl rfl ?_
  refine zr_iconst (pc' := 22) dX12_expression_21 rfl ?_
  refine zr_put (pc' := 25) dX12_expression_22 rfl ps_102 kd_102 fl_X12_326 kc_12 rfl nf_102_48 rfl (Or.inr rfl) (fun M5 hM1 => ?_)
  have h := h M5 hM1
  refine zr_aload_n (pc' := 26) (i := 0) dX12_expression_25 rfl rfl rfl ?_
  refine zr_iconst (pc' := 27) dX12_expression_26 rfl ?_
  refine zr_put (pc' := 30) dX12_expression_27 rfl ps_102 kd_102 fl_X12_307 kc_12 rfl nf_102_49 rfl (Or.inr rfl) (fun M6 hM1 => ?_)
  have h := h M6 hM1
  obtain ⟨n', h⟩ := h
  exact zn_al ((key n')  _ h) ⟨rfl, trivial⟩
set_option maxRecDepth 20000 in
theorem vcX12_line {E : zE} {M : zM} {Q : Int → zM → Prop}
    (h : ((zR (M 102 19)) ∧ ((¬ (M 102 19) = 1 → (zP E mX12_wrong [.inr (.inr 102), .inl 1] M (fun r1 M2 => ((r1 = 0 ∨ r1 = 1) ∧ Q r1 M2)))) ∧ ((M 102 19) = 1 → ((zR (M 102 20)) ∧ (((M 102 20) ≤ 1 → ((zR (M 102 20)) ∧ ((¬ (M 102 20) = 0 → ((zR (M 102 33)) ∧ ((¬ (M 102 33) = 12 → (zP E mX12_take [.inr (.inr 102)] M (fun r3 M4 => (zP E mX12_number [.inr (.inr 102), .inl 1, .inl 4] M4 (fun r5 M6 => ((zR r5) ∧ ((¬ r5 = 0 → (0 ≤ 12 + (M6 102 33) ∧ 12 + (M6 102 33) < 24) ∧ (∀ M7, M7 = zup M6 120 ((12 + (M6 102 33)).toNat) (M6 102 20) → (0 ≤ 12 + (M6 102 33) ∧ 12 + (M6 102 33) < 24) ∧ (∀ M8, M8 = zup M7 121 ((12 + (M6 102 33)).toNat) (M7 102 39) → (zP E mX12_take [.inr (.inr 102)] M8 (fun r9 M10 => (zP E mX12_expression [.inr (.inr 102)] M10 (fun r11 M12 => ((zR r11) ∧ ((¬ r11 = 0 → (0 ≤ 12 + (M6 102 33) ∧ 12 + (M6 102 33) < 24) ∧ (0 ≤ 12 + (M6 102 33) ∧ 12 + (M6 102 33) < 24) ∧ (∀ M13, M13 = zup M12 122 ((12 + (M6 102 33)).toNat) ((M12 102 39) - (M12 121 ((12 + (M6 102 33)).toNat))) → (∀ M14, M14 = zup M13 102 33 ((M13 102 33) + 1) → (zP E mX12_sign [.inr (.inr 102), .inl 59] M14 (fun r15 M16 => ((r15 = 0 ∨ r15 = 1) ∧ Q r15 M16)))))) ∧ (r11 = 0 → Q 0 M12)))))))))) ∧ (r5 = 0 → Q 0 M6)))))))) ∧ ((M 102 33) = 12 → (zP E mX12_wrong [.inr (.inr 102), .inl 2] M (fun r17 M18 => ((r17 = 0 ∨ r17 = 1) ∧ Q r17 M18))))))) ∧ ((M 102 20) = 0 → ((zR (M 102 36)) ∧ (((M 102 36) = 0 → (zP E mX12_take [.inr (.inr 102)] M (fun r19 M20 => (zP E mX12_number [.inr (.inr 102), .inl 0, .inl 24] M20 (fun r21 M22 => ((zR r21) ∧ ((¬ r21 = 0 → (∀ M23, M23 = zup M22 102 36 1 → (∀ M24, M24 = zup M23 102 35 (M23 102 20) → (zP E mX12_take [.inr (.inr 102)] M24 (fun r25 M26 => (zP E mX12_sign [.inr (.inr 102), .inl 59] M26 (fun r27 M28 => ((r27 = 0 ∨ r27 = 1) ∧ Q r27 M28)))))))) ∧ (r21 = 0 → Q 0 M22)))))))) ∧ (¬ (M 102 36) = 0 → (zP E mX12_wrong [.inr (.inr 102), .inl 3] M (fun r29 M30 => ((r29 = 0 ∨ r29 = 1) ∧ Q r29 M30)))))))))) ∧ (1 < (M 102 20) → (zP E mX12_wrong [.inr (.inr 102), .inl 1] M (fun r31 M32 => ((r31 = 0 ∨ r31 = 1) ∧ Q r31 M32))))))))))
    : zP E mX12_line [.inr (.inr 102)] M Q := by
  refine zP_of (by decide +kernel) rfl (Nat.le_of_ble_eq_true rfl) ?_
  show zA E zNN (0, 0) mX12_line 0 [(0, .inr (.inr 102))] [] M (zQ Q)
  refine zr_aload_n (pc' := 1) (i := 0) dX12_line_0 rfl rfl rfl ?_
  refine zr_get (pc' := 4) dX12_line_1 rfl ps_102 kd_102 fl_X12_254 kc_12 (gv_102_19 _) ?_
  refine zr_iconst (pc' := 5) dX12_line_4 rfl ?_
  refine zr_icmp_ne (tgt := 16) (pc' := 8) dX12_line_5 rfl rfl h.1 (zRd rfl) (fun hc => ?_) (fun hc => ?_)
  · have h := h.2.1 hc
    refine zr_aload_n (pc' := 17) (i := 0) dX12_line_16 rfl rfl rfl ?_
    refine zr_iconst (pc' := 18) dX12_line_17 rfl ?_
    refine zn_callV (pc' := 21) (args := [.inl 1]) (st := []) (st' := fun r1 => [.inl r1]) dX12_line_18 rfl cv_X12_278 ⟨rfl, rfl, by decide, by decide⟩ rfl ps_102 kd_102 rfl rfl (Nat.le_of_ble_eq_true rfl) (fun _ => rfl) h ?_
    intro r1 M2 h
    exact zr_ireturn dX12_line_21 rfl rfl h.1 (Nat.le_refl _) (Nat.le_refl _) (And.intro rfl h.2)
  · have h := h.2.2 hc
    refine zr_aload_n (pc' := 9) (i := 0) dX12_line_8 rfl rfl rfl ?_
    refine zr_get (pc' := 12) dX12_line_9 rfl ps_102 kd_102 fl_X12_264 kc_12 (gv_102_20 _) ?_
    refine zr_iconst (pc' := 13) dX12_line_12 rfl ?_
    refine zr_icmp_le (tgt := 22) (pc' := 16) dX12_line_13 rfl rfl h.1 (zRd rfl) (fun hc => ?_) (fun hc => ?_)
    · have h := h.2.1 hc
      refine zr_aload_n (pc' := 23) (i := 0) dX12_line_22 rfl rfl rfl ?_
      refine zr_get (pc' := 26) dX12_line_23 rfl ps_102 kd_102 fl_X12_264 kc_12 (gv_102_20 _) ?_
      refine zr_if_ne (tgt := 82) (pc' := 29) dX12_line_26 rfl rfl h.1 (fun hc => ?_) (fun hc => ?_)
      · have h := h.2.1 hc
        refine zr_aload_n (pc' := 83) (i := 0) dX12_line_82 rfl rfl rfl ?_
        refine zr_get (pc' := 86) dX12_line_83 rfl ps_102 kd_102 fl_X12_357 kc_12 (gv_102_33 _) ?_
        refine zr_bipush (pc' := 88) dX12_line_86 rfl rfl ?_
        refine zr_icmp_ne (tgt := 97) (pc' := 91) dX12_line_88 rfl rfl h.1 (zRd rfl) (fun hc => ?_) (fun hc => ?_)
        · have h := h.2.1 hc
          refine zr_aload_n (pc' := 98) (i := 0) dX12_line_97 rfl rfl rfl ?_
          refine zn_callV (pc' := 101) (args := []) (st := []) (st' := fun _ => []) dX12_line_98 rfl cv_X12_311 ⟨rfl, rfl, by decide, by decide⟩ rfl ps_102 kd_102 rfl rfl (Nat.le_of_ble_eq_true rfl) (fun _ => rfl) h ?_
          intro r3 M4 h
          refine zr_aload_n (pc' := 102) (i := 0) dX12_line_101 rfl rfl rfl ?_
          refine zr_iconst (pc' := 103) dX12_line_102 rfl ?_
          refine zr_iconst (pc' := 104) dX12_line_103 rfl ?_
          refine zn_callV (pc' := 107) (args := [.inl 1, .inl 4]) (st := []) (st' := fun r5 => [.inl r5]) dX12_line_104 rfl cv_X12_323 ⟨rfl, rfl, by decide, by decide⟩ rfl ps_102 kd_102 rfl rfl (Nat.le_of_ble_eq_true rfl) (fun _ => rfl) h ?_
          intro r5 M6 h
          refine zr_if_ne (tgt := 112) (pc' := 110) dX12_line_107 rfl rfl h.1 (fun hc => ?_) (fun hc => ?_)
          · have h := h.2.1 hc
            refine zr_bipush (pc' := 114) dX12_line_112 rfl rfl ?_
            refine zr_aload_n (pc' := 115) (i := 0) dX12_line_114 rfl rfl rfl ?_
            refine zr_get (pc' := 118) dX12_line_115 rfl ps_102 kd_102 fl_X12_357 kc_12 (gv_102_33 _) ?_
            refine zr_iadd (pc' := 119) dX12_line_118 rfl ?_
            refine zr_istore_n (pc' := 120) (i := 1) (al' := [(1, .inl (12 + (M6 102 33))), (0, .inr (.inr 102))]) dX12_line_119 rfl rfl (by decide) rfl ?_
            refine zr_aload_n (pc' := 121) (i := 0) dX12_line_120 rfl rfl rfl ?_
            refine zr_get (pc' := 124) dX12_line_121 rfl ps_102 kd_102 fl_X12_66 kc_12 (gv_102_29 _) ?_
            refine zr_iload_n (pc' := 125) (i := 1) dX12_line_124 rfl rfl rfl ?_
            refine zr_aload_n (pc' := 126) (i := 0) dX12_line_125 rfl rfl rfl ?_
            refine zr_get (pc' := 129) dX12_line_126 rfl ps_102 kd_102 fl_X12_264 kc_12 (gv_102_20 _) ?_
            refine zr_iast (pc' := 130) dX12_line_129 rfl ps_120 kd_120 (by decide) h.1.1 h.1.2 (fun M7 hM1 => ?_)
            have h := h.2 M7 hM1
            refine zr_aload_n (pc' := 131) (i := 0) dX12_line_130 rfl rfl rfl ?_
            refine zr_get (pc' := 134) dX12_line_131 rfl ps_102 kd_102 fl_X12_69 kc_12 (gv_102_30 _) ?_
            refine zr_iload_n (pc' := 135) (i := 1) dX12_line_134 rfl rfl rfl ?_
            refine zr_aload_n (pc' := 136) (i := 0) dX12_line_135 rfl rfl rfl ?_
            refine zr_get (pc' := 139) dX12_line_136 rfl ps_102 kd_102 fl_X12_281 kc_12 (gv_102_39 _) ?_
            refine zr_iast (pc' := 140) dX12_line_139 rfl ps_121 kd_121 (by decide) h.1.1 h.1.2 (fun M8 hM1 => ?_)
            have h := h.2 M8 hM1
            refine zr_aload_n (pc' := 141) (i := 0) dX12_line_140 rfl rfl rfl ?_
            refine zn_callV (pc' := 144) (args := []) (st := []) (st' := fun _ => []) dX12_line_141 rfl cv_X12_311 ⟨rfl, rfl, by decide, by decide⟩ rfl ps_102 kd_102 rfl rfl (Nat.le_of_ble_eq_true rfl) (fun _ => rfl) h ?_
            intro r9 M10 h
            refine zr_aload_n (pc' := 145) (i := 0) dX12_line_144 rfl rfl rfl ?_
            refine zn_callV (pc' := 148) (args := []) (st := []) (st' := fun r11 => [.inl r11]) dX12_line_145 rfl cv_X12_360 ⟨rfl, rfl, by decide, by decide⟩ rfl ps_102 kd_102 rfl rfl (Nat.le_of_ble_eq_true rfl) (fun _ => rfl) h ?_
            intro r11 M12 h
            refine zr_if_ne (tgt := 153) (pc' := 151) dX12_line_148 rfl rfl h.1 (fun hc => ?_) (fun hc => ?_)
            · have h := h.2.1 hc
              refine zr_aload_n (pc' := 154) (i := 0) dX12_line_153 rfl rfl rfl ?_
              refine zr_get (pc' := 157) dX12_line_154 rfl ps_102 kd_102 fl_X12_72 kc_12 (gv_102_31 _) ?_
              refine zr_iload_n (pc' := 158) (i := 1) dX12_line_157 rfl rfl rfl ?_
              refine zr_aload_n (pc' := 159) (i := 0) dX12_line_158 rfl rfl rfl ?_
              refine zr_get (pc' := 162) dX12_line_159 rfl ps_102 kd_102 fl_X12_281 kc_12 (gv_102_39 _) ?_
              refine zr_aload_n (pc' := 163) (i := 0) dX12_line_162 rfl rfl rfl ?_
              refine zr_get (pc' := 166) dX12_line_163 rfl ps_102 kd_102 fl_X12_69 kc_12 (gv_102_30 _) ?_
              refine zr_iload_n (pc' := 167) (i := 1) dX12_line_166 rfl rfl rfl ?_
              refine zr_iald (pc' := 168) dX12_line_167 rfl ps_121 kd_121 (by decide) h.1.1 h.1.2 ?_
              have h := h.2
              refine zr_isub (pc' := 169) dX12_line_168 rfl ?_
              refine zr_iast (pc' := 170) dX12_line_169 rfl ps_122 kd_122 (by decide) h.1.1 h.1.2 (fun M13 hM1 => ?_)
              have h := h.2 M13 hM1
              refine zr_aload_n (pc' := 171) (i := 0) dX12_line_170 rfl rfl rfl ?_
              refine zr_dup (pc' := 172) dX12_line_171 rfl rfl ?_
              refine zr_get (pc' := 175) dX12_line_172 rfl ps_102 kd_102 fl_X12_357 kc_12 (gv_102_33 _) ?_
              refine zr_iconst (pc' := 176) dX12_line_175 rfl ?_
              refine zr_iadd (pc' := 177) dX12_line_176 rfl ?_
              refine zr_put (pc' := 180) dX12_line_177 rfl ps_102 kd_102 fl_X12_357 kc_12 rfl nf_102_33 rfl trivial (fun M14 hM1 => ?_)
              have h := h M14 hM1
              refine zr_aload_n (pc' := 181) (i := 0) dX12_line_180 rfl rfl rfl ?_
              refine zr_bipush (pc' := 183) dX12_line_181 rfl rfl ?_
              refine zn_callV (pc' := 186) (args := [.inl 59]) (st := []) (st' := fun r15 => [.inl r15]) dX12_line_183 rfl cv_X12_320 ⟨rfl, rfl, by decide, by decide⟩ rfl ps_102 kd_102 rfl rfl (Nat.le_of_ble_eq_true rfl) (fun _ => rfl) h ?_
              intro r15 M16 h
              exact zr_ireturn dX12_line_186 rfl rfl h.1 (Nat.le_refl _) (Nat.le_refl _) (And.intro rfl h.2)
            · have h := h.2.2 hc
              refine zr_iconst (pc' := 152) dX12_line_151 rfl ?_
              exact zr_ireturn dX12_line_152 rfl rfl (Or.inl rfl) (Nat.le_refl _) (Nat.le_refl _) (And.intro rfl h)
          · have h := h.2.2 hc
            refine zr_iconst (pc' := 111) dX12_line_110 rfl ?_
            exact zr_ireturn dX12_line_111 rfl rfl (Or.inl rfl) (Nat.le_refl _) (Nat.le_refl _) (And.intro rfl h)
        · have h := h.2.2 hc
          refine zr_aload_n (pc' := 92) (i := 0) dX12_line_91 rfl rfl rfl ?_
          refine zr_iconst (pc' := 93) dX12_line_92 rfl ?_
          refine zn_callV (pc' := 96) (args := [.inl 2]) (st := []) (st' := fun r17 => [.inl r17]) dX12_line_93 rfl cv_X12_278 ⟨rfl, rfl, by decide, by decide⟩ rfl ps_102 kd_102 rfl rfl (Nat.le_of_ble_eq_true rfl) (fun _ => rfl) h ?_
          intro r17 M18 h
          exact zr_ireturn dX12_line_96 rfl rfl h.1 (Nat.le_refl _) (Nat.le_refl _) (And.intro rfl h.2)
      · have h := h.2.2 hc
        refine zr_aload_n (pc' := 30) (i := 0) dX12_line_29 rfl rfl rfl ?_
        refine zr_get (pc' := 33) dX12_line_30 rfl ps_102 kd_102 fl_X12_351 kc_12 (gv_102_36 _) ?_
        refine zr_if_eq (tgt := 42) (pc' := 36) dX12_line_33 rfl rfl h.1 (fun hc => ?_) (fun hc => ?_)
        · have h := h.2.1 hc
          refine zr_aload_n (pc' := 43) (i := 0) dX12_line_42 rfl rfl rfl ?_
          refine zn_callV (pc' := 46) (args := []) (st := []) (st' := fun _ => []) dX12_line_43 rfl cv_X12_311 ⟨rfl, rfl, by decide, by decide⟩ rfl ps_102 kd_102 rfl rfl (Nat.le_of_ble_eq_true rfl) (fun _ => rfl) h ?_
          intro r19 M20 h
          refine zr_aload_n (pc' := 47) (i := 0) dX12_line_46 rfl rfl rfl ?_
          refine zr_iconst (pc' := 48) dX12_line_47 rfl ?_
          refine zr_bipush (pc' := 50) dX12_line_48 rfl rfl ?_
          refine zn_callV (pc' := 53) (args := [.inl 0, .inl 24]) (st := []) (st' := fun r21 => [.inl r21]) dX12_line_50 rfl cv_X12_323 ⟨rfl, rfl, by decide, by decide⟩ rfl ps_102 kd_102 rfl rfl (Nat.le_of_ble_eq_true rfl) (fun _ => rfl) h ?_
          intro r21 M22 h
          refine zr_if_ne (tgt := 58) (pc' := 56) dX12_line_53 rfl rfl h.1 (fun hc => ?_) (fun hc => ?_)
          · have h := h.2.1 hc
            refine zr_aload_n (pc' := 59) (i := 0) dX12_line_58 rfl rfl rfl ?_
            refine zr_iconst (pc' := 60) dX12_line_59 rfl ?_
            refine zr_put (pc' := 63) dX12_line_60 rfl ps_102 kd_102 fl_X12_351 kc_12 rfl nf_102_36 rfl (Or.inr rfl) (fun M23 hM1 => ?_)
            have h := h M23 hM1
            refine zr_aload_n (pc' := 64) (i := 0) dX12_line_63 rfl rfl rfl ?_
            refine zr_aload_n (pc' := 65) (i := 0) dX12_line_64 rfl rfl rfl ?_
            refine zr_get (pc' := 68) dX12_line_65 rfl ps_102 kd_102 fl_X12_264 kc_12 (gv_102_20 _) ?_
            refine zr_put (pc' := 71) dX12_line_68 rfl ps_102 kd_102 fl_X12_354 kc_12 rfl nf_102_35 rfl trivial (fun M24 hM1 => ?_)
            have h := h M24 hM1
            refine zr_aload_n (pc' := 72) (i := 0) dX12_line_71 rfl rfl rfl ?_
            refine zn_callV (pc' := 75) (args := []) (st := []) (st' := fun _ => []) dX12_line_72 rfl cv_X12_311 ⟨rfl, rfl, by decide, by decide⟩ rfl ps_102 kd_102 rfl rfl (Nat.le_of_ble_eq_true rfl) (fun _ => rfl) h ?_
            intro r25 M26 h
            refine zr_aload_n (pc' := 76) (i := 0) dX12_line_75 rfl rfl rfl ?_
            refine zr_bipush (pc' := 78) dX12_line_76 rfl rfl ?_
            refine zn_callV (pc' := 81) (args := [.inl 59]) (st := []) (st' := fun r27 => [.inl r27]) dX12_line_78 rfl cv_X12_320 ⟨rfl, rfl, by decide, by decide⟩ rfl ps_102 kd_102 rfl rfl (Nat.le_of_ble_eq_true rfl) (fun _ => rfl) h ?_
            intro r27 M28 h
            exact zr_ireturn dX12_line_81 rfl rfl h.1 (Nat.le_refl _) (Nat.le_refl _) (And.intro rfl h.2)
          · have h := h.2.2 hc
            refine zr_iconst (pc' := 57) dX12_line_56 rfl ?_
            exact zr_ireturn dX12_line_57 rfl rfl (Or.inl rfl) (Nat.le_refl _) (Nat.le_refl _) (And.intro rfl h)
        · have h := h.2.2 hc
          refine zr_aload_n (pc' := 37) (i := 0) dX12_line_36 rfl rfl rfl ?_
          refine zr_iconst (pc' := 38) dX12_line_37 rfl ?_
          refine zn_callV (pc' := 41) (args := [.inl 3]) (st := []) (st' := fun r29 => [.inl r29]) dX12_line_38 rfl cv_X12_278 ⟨rfl, rfl, by decide, by decide⟩ rfl ps_102 kd_102 rfl rfl (Nat.le_of_ble_eq_true rfl) (fun _ => rfl) h ?_
          intro r29 M30 h
          exact zr_ireturn dX12_line_41 rfl rfl h.1 (Nat.le_refl _) (Nat.le_refl _) (And.intro rfl h.2)
    · have h := h.2.2 hc
      refine zr_aload_n (pc' := 17) (i := 0) dX12_line_16 rfl rfl rfl ?_
      refine zr_iconst (pc' := 18) dX12_line_17 rfl ?_
      refine zn_callV (pc' := 21) (args := [.inl 1]) (st := []) (st' := fun r31 => [.inl r31]) dX12_line_18 rfl cv_X12_278 ⟨rfl, rfl, by decide, by decide⟩ rfl ps_102 kd_102 rfl rfl (Nat.le_of_ble_eq_true rfl) (fun _ => rfl) h ?_
      intro r31 M32 h
      exact zr_ireturn dX12_line_21 rfl rfl h.1 (Nat.le_refl _) (Nat.le_refl _) (And.intro rfl h.2)
set_option maxRecDepth 20000 in
theorem vcX12_rules {E : zE} {M : zM} {Q : Int → zM → Prop} (l1 : Int) (I74 : Nat → zM → Prop) (I116 : Nat → Int → zM → Prop) (I177 : Nat → Int → zM → Prop)
    (h : (∀ M1, M1 = zup M 102 2 0 → ((zR l1) ∧ ((l1 < 0 → Q (-2) M1) ∧ (0 ≤ l1 → ((zR l1 ∧ zR (M1 102 1)) ∧ ((l1 ≤ (M1 102 1) → (∀ M2, M2 = zup M1 102 17 l1 → (∀ M3, M3 = zup M2 102 1 0 → (∀ M4, M4 = zup M3 102 15 0 → (∀ M5, M5 = zup M4 102 16 (-1) → (∀ M6, M6 = zup M5 102 18 0 → (∀ M7, M7 = zup M6 102 33 0 → (∀ M8, M8 = zup M7 102 35 0 → (∀ M9, M9 = zup M8 102 36 0 → (∀ M10, M10 = zup M9 102 38 0 → (∀ M11, M11 = zup M10 102 39 0 → (zP E mX12_take [.inr (.inr 102)] M11 (fun r12 M13 => ∃ n', I74 n'  M13))))))))))))) ∧ ((M1 102 1) < l1 → Q (-2) M1))))))))
    (h74 : ∀ (n : Nat) (M : zM), I74 n  M → ((zR (M 102 19)) ∧ (((M 102 19) = 0 → (∀ M14, M14 = zup M 102 32 (M 102 33) → (∀ M15, M15 = zup M14 102 34 (M14 102 35) → (∀ M16, M16 = zup M15 102 37 (M15 102 38) → ∃ n', n' < n ∧ I116 n' 0 M16)))) ∧ (¬ (M 102 19) = 0 → (zP E mX12_line [.inr (.inr 102)] M (fun r17 M18 => ((zR r17) ∧ ((¬ r17 = 0 → ∃ n', n' < n ∧ I74 n'  M18) ∧ (r17 = 0 → Q (-1) M18)))))))))
    (h116 : ∀ (n : Nat) (l2 : Int) (M : zM), I116 n l2 M → ((zR l2 ∧ zR (M 102 32)) ∧ (((M 102 32) ≤ l2 → ∃ n', n' < n ∧ I177 n' 0 M) ∧ (l2 < (M 102 32) → (0 ≤ 12 + l2 ∧ 12 + l2 < 24) ∧ (0 ≤ l2 ∧ l2 < 24) ∧ (∀ M19, M19 = zup M 120 l2.toNat (M 120 ((12 + l2).toNat)) → (0 ≤ 12 + l2 ∧ 12 + l2 < 24) ∧ (0 ≤ l2 ∧ l2 < 24) ∧ (∀ M20, M20 = zup M19 121 l2.toNat (M19 121 ((12 + l2).toNat)) → (0 ≤ 12 + l2 ∧ 12 + l2 < 24) ∧ (0 ≤ l2 ∧ l2 < 24) ∧ (∀ M21, M21 = zup M20 122 l2.toNat (M20 122 ((12 + l2).toNat)) → ∃ n', n' < n ∧ I116 n' (l2 + 1) M21)))))))
    (h177 : ∀ (n : Nat) (l2 : Int) (M : zM), I177 n l2 M → ((zR l2 ∧ zR (M 102 37)) ∧ (((M 102 37) ≤ l2 → ((zR (M 102 36)) ∧ (((M 102 36) = 0 → Q ((M 102 32) + 0) M) ∧ (¬ (M 102 36) = 0 → Q ((M 102 32) + 1) M)))) ∧ (l2 < (M 102 37) → (0 ≤ 64 + l2 ∧ 64 + l2 < 128) ∧ (0 ≤ l2 ∧ l2 < 128) ∧ (∀ M22, M22 = zup M 113 l2.toNat (M 113 ((64 + l2).toNat)) → (0 ≤ 64 + l2 ∧ 64 + l2 < 128) ∧ (0 ≤ l2 ∧ l2 < 128) ∧ (∀ M23, M23 = zup M22 114 l2.toNat ((M22 114 ((64 + l2).toNat)) - 64) → (0 ≤ 64 + l2 ∧ 64 + l2 < 128) ∧ (0 ≤ l2 ∧ l2 < 128) ∧ (∀ M24, M24 = zup M23 115 l2.toNat ((M23 115 ((64 + l2).toNat)) - 64) → (0 ≤ 64 + l2 ∧ 64 + l2 < 128) ∧ (0 ≤ l2 ∧ l2 < 128) ∧ (∀ M25, M25 = zup M24 116 l2.toNat (M24 116 ((64 + l2).toNat)) → (0 ≤ 64 + l2 ∧ 64 + l2 < 128) ∧ (0 ≤ l2 ∧ l2 < 128) ∧ (∀ M26, M26 = zup M25 117 l2.toNat (M25 117 ((64 + l2).toNat)) → (0 ≤ 64 + l2 ∧ 64 + l2 < 128) ∧ (0 ≤ l2 ∧ l2 < 128) ∧ (∀ M27, M27 = zup M26 118 l2.toNat (M26 118 ((64 + l2).toNat)) → (0 ≤ 64 + l2 ∧ 64 + l2 < 128) ∧ (0 ≤ l2 ∧ l2 < 128) ∧ (∀ M28, M28 = zup M27 119 l2.toNat ((M27 119 ((64 + l2).toNat)) - 64) → ∃ n', n' < n ∧ I177 n' (l2 + 1) M28)))))))))))
    : zP E mX12_rules [.inr (.inr 102), .inl l1] M Q := by
  have key : ∀ n : Nat, (∀ (M : zM), I74 n  M → zA E zNN (0, 0) mX12_rules 74 [(0, .inr (.inr 102))] [] M (zQ Q)) ∧ (∀ (l2 : Int) (M : zM), I116 n l2 M → zA E zNN (0, 0) mX12_rules 116 [(0, .inr (.inr 102)), (2, .inl l2)] [] M (zQ Q)) ∧ (∀ (l2 : Int) (M : zM), I177 n l2 M → zA E zNN (0, 0) mX12_rules 177 [(0, .inr (.inr 102)), (2, .inl l2)] [] M (zQ Q)) := by
    intro n
    induction n using Nat.strongRecOn with
    | ind n ih =>
      refine ⟨?_, ?_, ?_⟩
      · intro  M h
        have h := h74 n  M h
        refine zr_aload_n (pc' := 75) (i := 0) dX12_rules_74 rfl rfl rfl ?_
        refine zr_get (pc' := 78) dX12_rules_75 rfl ps_102 kd_102 fl_X12_254 kc_12 (gv_102_19 _) ?_
        refine zr_if_eq (tgt := 90) (pc' := 81) dX12_rules_78 rfl rfl h.1 (fun hc => ?_) (fun hc => ?_)
        · have h := h.2.1 hc
          refine zr_aload_n (pc' := 91) (i := 0) dX12_rules_90 rfl rfl rfl ?_
          refine zr_aload_n (pc' := 92) (i := 0) dX12_rules_91 rfl rfl rfl ?_
          refine zr_get (pc' := 95) dX12_rules_92 rfl ps_102 kd_102 fl_X12_357 kc_12 (gv_102_33 _) ?_
          refine zr_put (pc' := 98) dX12_rules_95 rfl ps_102 kd_102 fl_X12_366 kc_12 rfl nf_102_32 rfl trivial (fun M14 hM1 => ?_)
          have h := h M14 hM1
          refine zr_aload_n (pc' := 99) (i := 0) dX12_rules_98 rfl rfl rfl ?_
          refine zr_aload_n (pc' := 100) (i := 0) dX12_rules_99 rfl rfl rfl ?_
          refine zr_get (pc' := 103) dX12_rules_100 rfl ps_102 kd_102 fl_X12_354 kc_12 (gv_102_35 _) ?_
          refine zr_put (pc' := 106) dX12_rules_103 rfl ps_102 kd_102 fl_X12_369 kc_12 rfl nf_102_34 rfl trivial (fun M15 hM1 => ?_)
          have h := h M15 hM1
          refine zr_aload_n (pc' := 107) (i := 0) dX12_rules_106 rfl rfl rfl ?_
          refine zr_aload_n (pc' := 108) (i := 0) dX12_rules_107 rfl rfl rfl ?_
          refine zr_get (pc' := 111) dX12_rules_108 rfl ps_102 kd_102 fl_X12_275 kc_12 (gv_102_38 _) ?_
          refine zr_put (pc' := 114) dX12_rules_111 rfl ps_102 kd_102 fl_X12_372 kc_12 rfl nf_102_37 rfl trivial (fun M16 hM1 => ?_)
          have h := h M16 hM1
          refine zr_iconst (pc' := 115) dX12_rules_114 rfl ?_
          refine zr_istore_n (pc' := 116) (i := 2) (al' := [(2, .inl 0), (0, .inr (.inr 102))]) dX12_rules_115 rfl rfl (by decide) rfl ?_
          obtain ⟨n', hn, h⟩ := h
          exact zn_al ((ih n' hn).2.1 _ _ h) ⟨rfl, rfl, trivial⟩
        · have h := h.2.2 hc
          refine zr_aload_n (pc' := 82) (i := 0) dX12_rules_81 rfl rfl rfl ?_
          refine zn_callV (pc' := 85) (args := []) (st := []) (st' := fun r17 => [.inl r17]) dX12_rules_82 rfl cv_X12_363 ⟨rfl, rfl, by decide, by decide⟩ rfl ps_102 kd_102 rfl rfl (Nat.le_of_ble_eq_true rfl) (fun _ => rfl) h ?_
          intro r17 M18 h
          refine zr_if_ne (tgt := 74) (pc' := 88) dX12_rules_85 rfl rfl h.1 (fun hc => ?_) (fun hc => ?_)
          · have h := h.2.1 hc
            obtain ⟨n', hn, h⟩ := h
            exact zn_al ((ih n' hn).1  _ h) ⟨rfl, trivial⟩
          · have h := h.2.2 hc
            refine zr_iconst (pc' := 89) dX12_rules_88 rfl ?_
            exact zr_ireturn dX12_rules_89 rfl rfl trivial (Nat.le_refl _) (Nat.le_refl _) (And.intro rfl h)
      · intro l2 M h
        have h := h116 n l2 M h
        refine zr_iload_n (pc' := 117) (i := 2) dX12_rules_116 rfl rfl rfl ?_
        refine zr_aload_n (pc' := 118) (i := 0) dX12_rules_117 rfl rfl rfl ?_
        refine zr_get (pc' := 121) dX12_rules_118 rfl ps_102 kd_102 fl_X12_366 kc_12 (gv_102_32 _) ?_
        refine zr_icmp_ge (tgt := 175) (pc' := 124) dX12_rules_121 rfl rfl h.1.1 h.1.2 (fun hc => ?_) (fun hc => ?_)
        · have h := h.2.1 hc
          refine zr_iconst (pc' := 176) dX12_rules_175 rfl ?_
          refine zr_istore_n (pc' := 177) (i := 2) (al' := [(2, .inl 0), (0, .inr (.inr 102))]) dX12_rules_176 rfl rfl (by decide) rfl ?_
          obtain ⟨n', hn, h⟩ := h
          exact zn_al ((ih n' hn).2.2 _ _ h) ⟨rfl, rfl, trivial⟩
        · have h := h.2.2 hc
          refine zr_aload_n (pc' := 125) (i := 0) dX12_rules_124 rfl rfl rfl ?_
          refine zr_get (pc' := 128) dX12_rules_125 rfl ps_102 kd_102 fl_X12_66 kc_12 (gv_102_29 _) ?_
          refine zr_iload_n (pc' := 129) (i := 2) dX12_rules_128 rfl rfl rfl ?_
          refine zr_aload_n (pc' := 130) (i := 0) dX12_rules_129 rfl rfl rfl ?_
          refine zr_get (pc' := 133) dX12_rules_130 rfl ps_102 kd_102 fl_X12_66 kc_12 (gv_102_29 _) ?_
          refine zr_bipush (pc' := 135) dX12_rules_133 rfl rfl ?_
          refine zr_iload_n (pc' := 136) (i := 2) dX12_rules_135 rfl rfl rfl ?_
          refine zr_iadd (pc' := 137) dX12_rules_136 rfl ?_
          refine zr_iald (pc' := 138) dX12_rules_137 rfl ps_120 kd_120 (by decide) h.1.1 h.1.2 ?_
          have h := h.2
          refine zr_iast (pc' := 139) dX12_rules_138 rfl ps_120 kd_120 (by decide) h.1.1 h.1.2 (fun M19 hM1 => ?_)
          have h := h.2 M19 hM1
          refine zr_aload_n (pc' := 140) (i := 0) dX12_rules_139 rfl rfl rfl ?_
          refine zr_get (pc' := 143) dX12_rules_140 rfl ps_102 kd_102 fl_X12_69 kc_12 (gv_102_30 _) ?_
          refine zr_iload_n (pc' := 144) (i := 2) dX12_rules_143 rfl rfl rfl ?_
          refine zr_aload_n (pc' := 145) (i := 0) dX12_rules_144 rfl rfl rfl ?_
          refine zr_get (pc' := 148) dX12_rules_145 rfl ps_102 kd_102 fl_X12_69 kc_12 (gv_102_30 _) ?_
          refine zr_bipush (pc' := 150) dX12_rules_148 rfl rfl ?_
          refine zr_iload_n (pc' := 151) (i := 2) dX12_rules_150 rfl rfl rfl ?_
          refine zr_iadd (pc' := 152) dX12_rules_151 rfl ?_
          refine zr_iald (pc' := 153) dX12_rules_152 rfl ps_121 kd_121 (by decide) h.1.1 h.1.2 ?_
          have h := h.2
          refine zr_iast (pc' := 154) dX12_rules_153 rfl ps_121 kd_121 (by decide) h.1.1 h.1.2 (fun M20 hM1 => ?_)
          have h := h.2 M20 hM1
          refine zr_aload_n (pc' := 155) (i := 0) dX12_rules_154 rfl rfl rfl ?_
          refine zr_get (pc' := 158) dX12_rules_155 rfl ps_102 kd_102 fl_X12_72 kc_12 (gv_102_31 _) ?_
          refine zr_iload_n (pc' := 159) (i := 2) dX12_rules_158 rfl rfl rfl ?_
          refine zr_aload_n (pc' := 160) (i := 0) dX12_rules_159 rfl rfl rfl ?_
          refine zr_get (pc' := 163) dX12_rules_160 rfl ps_102 kd_102 fl_X12_72 kc_12 (gv_102_31 _) ?_
          refine zr_bipush (pc' := 165) dX12_rules_163 rfl rfl ?_
          refine zr_iload_n (pc' := 166) (i := 2) dX12_rules_165 rfl rfl rfl ?_
          refine zr_iadd (pc' := 167) dX12_rules_166 rfl ?_
          refine zr_iald (pc' := 168) dX12_rules_167 rfl ps_122 kd_122 (by decide) h.1.1 h.1.2 ?_
          have h := h.2
          refine zr_iast (pc' := 169) dX12_rules_168 rfl ps_122 kd_122 (by decide) h.1.1 h.1.2 (fun M21 hM1 => ?_)
          have h := h.2 M21 hM1
          refine zr_iinc (pc' := 172) (al' := [(2, .inl (l2 + 1)), (0, .inr (.inr 102))]) dX12_rules_169 rfl rfl (by decide) rfl ?_
          refine zr_goto (pc' := 116) dX12_rules_172 rfl ?_
          obtain ⟨n', hn, h⟩ := h
          exact zn_al ((ih n' hn).2.1 _ _ h) ⟨rfl, rfl, trivial⟩
      · intro l2 M h
        have h := h177 n l2 M h
        refine zr_iload_n (pc' := 178) (i := 2) dX12_rules_177 rfl rfl rfl ?_
        refine zr_aload_n (pc' := 179) (i := 0) dX12_rules_178 rfl rfl rfl ?_
        refine zr_get (pc' := 182) dX12_rules_179 rfl ps_102 kd_102 fl_X12_372 kc_12 (gv_102_37 _) ?_
        refine zr_icmp_ge (tgt := 305) (pc' := 185) dX12_rules_182 rfl rfl h.1.1 h.1.2 (fun hc => ?_) (fun hc => ?_)
        · have h := h.2.1 hc
          refine zr_aload_n (pc' := 306) (i := 0) dX12_rules_305 rfl rfl rfl ?_
          refine zr_get (pc' := 309) dX12_rules_306 rfl ps_102 kd_102 fl_X12_366 kc_12 (gv_102_32 _) ?_
          refine zr_aload_n (pc' := 310) (i := 0) dX12_rules_309 rfl rfl rfl ?_
          refine zr_get (pc' := 313) dX12_rules_310 rfl ps_102 kd_102 fl_X12_351 kc_12 (gv_102_36 _) ?_
          refine zr_if_eq (tgt := 320) (pc' := 316) dX12_rules_313 rfl rfl h.1 (fun hc => ?_) (fun hc => ?_)
          · have h := h.2.1 hc
            refine zr_iconst (pc' := 321) dX12_rules_320 rfl ?_
            refine zr_iadd (pc' := 322) dX12_rules_321 rfl ?_
            exact zr_ireturn dX12_rules_322 rfl rfl trivial (Nat.le_refl _) (Nat.le_refl _) (And.intro rfl h)
          · have h := h.2.2 hc
            refine zr_iconst (pc' := 317) dX12_rules_316 rfl ?_
            refine zr_goto (pc' := 321) dX12_rules_317 rfl ?_
            refine zr_iadd (pc' := 322) dX12_rules_321 rfl ?_
            exact zr_ireturn dX12_rules_322 rfl rfl trivial (Nat.le_refl _) (Nat.le_refl _) (And.intro rfl h)
        · have h := h.2.2 hc
          refine zr_aload_n (pc' := 186) (i := 0) dX12_rules_185 rfl rfl rfl ?_
          refine zr_get (pc' := 189) dX12_rules_186 rfl ps_102 kd_102 fl_X12_45 kc_12 (gv_102_22 _) ?_
          refine zr_iload_n (pc' := 190) (i := 2) dX12_rules_189 rfl rfl rfl ?_
          refine zr_aload_n (pc' := 191) (i := 0) dX12_rules_190 rfl rfl rfl ?_
          refine zr_get (pc' := 194) dX12_rules_191 rfl ps_102 kd_102 fl_X12_45 kc_12 (gv_102_22 _) ?_
          refine zr_bipush (pc' := 196) dX12_rules_194 rfl rfl ?_
          refine zr_iload_n (pc' := 197) (i := 2) dX12_rules_196 rfl rfl rfl ?_
          refine zr_iadd (pc' := 198) dX12_rules_197 rfl ?_
          refine zr_iald (pc' := 199) dX12_rules_198 rfl ps_113 kd_113 (by decide) h.1.1 h.1.2 ?_
          have h := h.2
          refine zr_iast (pc' := 200) dX12_rules_199 rfl ps_113 kd_113 (by decide) h.1.1 h.1.2 (fun M22 hM1 => ?_)
          have h := h.2 M22 hM1
          refine zr_aload_n (pc' := 201) (i := 0) dX12_rules_200 rfl rfl rfl ?_
          refine zr_get (pc' := 204) dX12_rules_201 rfl ps_102 kd_102 fl_X12_48 kc_12 (gv_102_23 _) ?_
          refine zr_iload_n (pc' := 205) (i := 2) dX12_rules_204 rfl rfl rfl ?_
          refine zr_aload_n (pc' := 206) (i := 0) dX12_rules_205 rfl rfl rfl ?_
          refine zr_get (pc' := 209) dX12_rules_206 rfl ps_102 kd_102 fl_X12_48 kc_12 (gv_102_23 _) ?_
          refine zr_bipush (pc' := 211) dX12_rules_209 rfl rfl ?_
          refine zr_iload_n (pc' := 212) (i := 2) dX12_rules_211 rfl rfl rfl ?_
          refine zr_iadd (pc' := 213) dX12_rules_212 rfl ?_
          refine zr_iald (pc' := 214) dX12_rules_213 rfl ps_114 kd_114 (by decide) h.1.1 h.1.2 ?_
          have h := h.2
          refine zr_bipush (pc' := 216) dX12_rules_214 rfl rfl ?_
          refine zr_isub (pc' := 217) dX12_rules_216 rfl ?_
          refine zr_iast (pc' := 218) dX12_rules_217 rfl ps_114 kd_114 (by decide) h.1.1 h.1.2 (fun M23 hM1 => ?_)
          have h := h.2 M23 hM1
          refine zr_aload_n (pc' := 219) (i := 0) dX12_rules_218 rfl rfl rfl ?_
          refine zr_get (pc' := 222) dX12_rules_219 rfl ps_102 kd_102 fl_X12_51 kc_12 (gv_102_24 _) ?_
          refine zr_iload_n (pc' := 223) (i := 2) dX12_rules_222 rfl rfl rfl ?_
          refine zr_aload_n (pc' := 224) (i := 0) dX12_rules_223 rfl rfl rfl ?_
          refine zr_get (pc' := 227) dX12_rules_224 rfl ps_102 kd_102 fl_X12_51 kc_12 (gv_102_24 _) ?_
          refine zr_bipush (pc' := 229) dX12_rules_227 rfl rfl ?_
          refine zr_iload_n (pc' := 230) (i := 2) dX12_rules_229 rfl rfl rfl ?_
          refine zr_iadd (pc' := 231) dX12_rules_230 rfl ?_
          refine zr_iald (pc' := 232) dX12_rules_231 rfl ps_115 kd_115 (by decide) h.1.1 h.1.2 ?_
          have h := h.2
          refine zr_bipush (pc' := 234) dX12_rules_232 rfl rfl ?_
          refine zr_isub (pc' := 235) dX12_rules_234 rfl ?_
          refine zr_iast (pc' := 236) dX12_rules_235 rfl ps_115 kd_115 (by decide) h.1.1 h.1.2 (fun M24 hM1 => ?_)
          have h := h.2 M24 hM1
          refine zr_aload_n (pc' := 237) (i := 0) dX12_rules_236 rfl rfl rfl ?_
          refine zr_get (pc' := 240) dX12_rules_237 rfl ps_102 kd_102 fl_X12_54 kc_12 (gv_102_25 _) ?_
          refine zr_iload_n (pc' := 241) (i := 2) dX12_rules_240 rfl rfl rfl ?_
          refine zr_aload_n (pc' := 242) (i := 0) dX12_rules_241 rfl rfl rfl ?_
          refine zr_get (pc' := 245) dX12_rules_242 rfl ps_102 kd_102 fl_X12_54 kc_12 (gv_102_25 _) ?_
          refine zr_bipush (pc' := 247) dX12_rules_245 rfl rfl ?_
          refine zr_iload_n (pc' := 248) (i := 2) dX12_rules_247 rfl rfl rfl ?_
          refine zr_iadd (pc' := 249) dX12_rules_248 rfl ?_
          refine zr_iald (pc' := 250) dX12_rules_249 rfl ps_116 kd_116 (by decide) h.1.1 h.1.2 ?_
          have h := h.2
          refine zr_iast (pc' := 251) dX12_rules_250 rfl ps_116 kd_116 (by decide) h.1.1 h.1.2 (fun M25 hM1 => ?_)
          have h := h.2 M25 hM1
          refine zr_aload_n (pc' := 252) (i := 0) dX12_rules_251 rfl rfl rfl ?_
          refine zr_get (pc' := 255) dX12_rules_252 rfl ps_102 kd_102 fl_X12_57 kc_12 (gv_102_26 _) ?_
          refine zr_iload_n (pc' := 256) (i := 2) dX12_rules_255 rfl rfl rfl ?_
          refine zr_aload_n (pc' := 257) (i := 0) dX12_rules_256 rfl rfl rfl ?_
          refine zr_get (pc' := 260) dX12_rules_257 rfl ps_102 kd_102 fl_X12_57 kc_12 (gv_102_26 _) ?_
          refine zr_bipush (pc' := 262) dX12_rules_260 rfl rfl ?_
          refine zr_iload_n (pc' := 263) (i := 2) dX12_rules_262 rfl rfl rfl ?_
          refine zr_iadd (pc' := 264) dX12_rules_263 rfl ?_
          refine zr_iald (pc' := 265) dX12_rules_264 rfl ps_117 kd_117 (by decide) h.1.1 h.1.2 ?_
          have h := h.2
          refine zr_iast (pc' := 266) dX12_rules_265 rfl ps_117 kd_117 (by decide) h.1.1 h.1.2 (fun M26 hM1 => ?_)
          have h := h.2 M26 hM1
          refine zr_aload_n (pc' := 267) (i := 0) dX12_rules_266 rfl rfl rfl ?_
          refine zr_get (pc' := 270) dX12_rules_267 rfl ps_102 kd_102 fl_X12_60 kc_12 (gv_102_27 _) ?_
          refine zr_iload_n (pc' := 271) (i := 2) dX12_rules_270 rfl rfl rfl ?_
          refine zr_aload_n (pc' := 272) (i := 0) dX12_rules_271 rfl rfl rfl ?_
          refine zr_get (pc' := 275) dX12_rules_272 rfl ps_102 kd_102 fl_X12_60 kc_12 (gv_102_27 _) ?_
          refine zr_bipush (pc' := 277) dX12_rules_275 rfl rfl ?_
          refine zr_iload_n (pc' := 278) (i := 2) dX12_rules_277 rfl rfl rfl ?_
          refine zr_iadd (pc' := 279) dX12_rules_278 rfl ?_
          refine zr_iald (pc' := 280) dX12_rules_279 rfl ps_118 kd_118 (by decide) h.1.1 h.1.2 ?_
          have h := h.2
          refine zr_iast (pc' := 281) dX12_rules_280 rfl ps_118 kd_118 (by decide) h.1.1 h.1.2 (fun M27 hM1 => ?_)
          have h := h.2 M27 hM1
          refine zr_aload_n (pc' := 282) (i := 0) dX12_rules_281 rfl rfl rfl ?_
          refine zr_get (pc' := 285) dX12_rules_282 rfl ps_102 kd_102 fl_X12_63 kc_12 (gv_102_28 _) ?_
          refine zr_iload_n (pc' := 286) (i := 2) dX12_rules_285 rfl rfl rfl ?_
          refine zr_aload_n (pc' := 287) (i := 0) dX12_rules_286 rfl rfl rfl ?_
          refine zr_get (pc' := 290) dX12_rules_287 rfl ps_102 kd_102 fl_X12_63 kc_12 (gv_102_28 _) ?_
          refine zr_bipush (pc' := 292) dX12_rules_290 rfl rfl ?_
          refine zr_iload_n (pc' := 293) (i := 2) dX12_rules_292 rfl rfl rfl ?_
          refine zr_iadd (pc' := 294) dX12_rules_293 rfl ?_
          refine zr_iald (pc' := 295) dX12_rules_294 rfl ps_119 kd_119 (by decide) h.1.1 h.1.2 ?_
          have h := h.2
          refine zr_bipush (pc' := 297) dX12_rules_295 rfl rfl ?_
          refine zr_isub (pc' := 298) dX12_rules_297 rfl ?_
          refine zr_iast (pc' := 299) dX12_rules_298 rfl ps_119 kd_119 (by decide) h.1.1 h.1.2 (fun M28 hM1 => ?_)
          have h := h.2 M28 hM1
          refine zr_iinc (pc' := 302) (al' := [(2, .inl (l2 + 1)), (0, .inr (.inr 102))]) dX12_rules_299 rfl rfl (by decide) rfl ?_
          refine zr_goto (pc' := 177) dX12_rules_302 rfl ?_
          obtain ⟨n', hn, h⟩ := h
          exact zn_al ((ih n' hn).2.2 _ _ h) ⟨rfl, rfl, trivial⟩
  refine zP_of (by decide +kernel) rfl (Nat.le_of_ble_eq_true rfl) ?_
  show zA E zNN (0, 0) mX12_rules 0 [(0, .inr (.inr 102)), (1, .inl l1)] [] M (zQ Q)
  refine zr_aload_n (pc' := 1) (i := 0) dX12_rules_0 rfl rfl rfl ?_
  refine zr_iconst (pc' := 2) dX12_rules_1 rfl ?_
  refine zr_put (pc' := 5) dX12_rules_2 rfl ps_102 kd_102 fl_X12_208 kc_12 rfl nf_102_2 rfl trivial (fun M1 hM1 => ?_)
  have h := h M1 hM1
  refine zr_iload_n (pc' := 6) (i := 1) dX12_rules_5 rfl rfl rfl ?_
  refine zr_if_lt (tgt := 17) (pc' := 9) dX12_rules_6 rfl rfl h.1 (fun hc => ?_) (fun hc => ?_)
  · have h := h.2.1 hc
    refine zr_bipush (pc' := 19) dX12_rules_17 rfl rfl ?_
    exact zr_ireturn dX12_rules_19 rfl rfl trivial (Nat.le_refl _) (Nat.le_refl _) (And.intro rfl h)
  · have h := h.2.2 hc
    refine zr_iload_n (pc' := 10) (i := 1) dX12_rules_9 rfl rfl rfl ?_
    refine zr_aload_n (pc' := 11) (i := 0) dX12_rules_10 rfl rfl rfl ?_
    refine zr_get (pc' := 14) dX12_rules_11 rfl ps_102 kd_102 fl_X12_211 kc_12 (gv_102_1 _) ?_
    refine zr_icmp_le (tgt := 20) (pc' := 17) dX12_rules_14 rfl rfl h.1.1 h.1.2 (fun hc => ?_) (fun hc => ?_)
    · have h := h.2.1 hc
      refine zr_aload_n (pc' := 21) (i := 0) dX12_rules_20 rfl rfl rfl ?_
      refine zr_iload_n (pc' := 22) (i := 1) dX12_rules_21 rfl rfl rfl ?_
      refine zr_put (pc' := 25) dX12_rules_22 rfl ps_102 kd_102 fl_X12_244 kc_12 rfl nf_102_17 rfl trivial (fun M2 hM1 => ?_)
      have h := h M2 hM1
      refine zr_aload_n (pc' := 26) (i := 0) dX12_rules_25 rfl rfl rfl ?_
      refine zr_iconst (pc' := 27) dX12_rules_26 rfl ?_
      refine zr_put (pc' := 30) dX12_rules_27 rfl ps_102 kd_102 fl_X12_211 kc_12 rfl nf_102_1 rfl trivial (fun M3 hM1 => ?_)
      have h := h M3 hM1
      refine zr_aload_n (pc' := 31) (i := 0) dX12_rules_30 rfl rfl rfl ?_
      refine zr_iconst (pc' := 32) dX12_rules_31 rfl ?_
      refine zr_put (pc' := 35) dX12_rules_32 rfl ps_102 kd_102 fl_X12_238 kc_12 rfl nf_102_15 rfl trivial (fun M4 hM1 => ?_)
      have h := h M4 hM1
      refine zr_aload_n (pc' := 36) (i := 0) dX12_rules_35 rfl rfl rfl ?_
      refine zr_iconst (pc' := 37) dX12_rules_36 rfl ?_
      refine zr_put (pc' := 40) dX12_rules_37 rfl ps_102 kd_102 fl_X12_41 kc_12 rfl nf_102_16 rfl trivial (fun M5 hM1 => ?_)
      have h := h M5 hM1
      refine zr_aload_n (pc' := 41) (i := 0) dX12_rules_40 rfl rfl rfl ?_
      refine zr_iconst (pc' := 42) dX12_rules_41 rfl ?_
      refine zr_put (pc' := 45) dX12_rules_42 rfl ps_102 kd_102 fl_X12_247 kc_12 rfl nf_102_18 rfl trivial (fun M6 hM1 => ?_)
      have h := h M6 hM1
      refine zr_aload_n (pc' := 46) (i := 0) dX12_rules_45 rfl rfl rfl ?_
      refine zr_iconst (pc' := 47) dX12_rules_46 rfl ?_
      refine zr_put (pc' := 50) dX12_rules_47 rfl ps_102 kd_102 fl_X12_357 kc_12 rfl nf_102_33 rfl trivial (fun M7 hM1 => ?_)
      have h := h M7 hM1
      refine zr_aload_n (pc' := 51) (i := 0) dX12_rules_50 rfl rfl rfl ?_
      refine zr_iconst (pc' := 52) dX12_rules_51 rfl ?_
      refine zr_put (pc' := 55) dX12_rules_52 rfl ps_102 kd_102 fl_X12_354 kc_12 rfl nf_102_35 rfl trivial (fun M8 hM1 => ?_)
      have h := h M8 hM1
      refine zr_aload_n (pc' := 56) (i := 0) dX12_rules_55 rfl rfl rfl ?_
      refine zr_iconst (pc' := 57) dX12_rules_56 rfl ?_
      refine zr_put (pc' := 60) dX12_rules_57 rfl ps_102 kd_102 fl_X12_351 kc_12 rfl nf_102_36 rfl (Or.inl rfl) (fun M9 hM1 => ?_)
      have h := h M9 hM1
      refine zr_aload_n (pc' := 61) (i := 0) dX12_rules_60 rfl rfl rfl ?_
      refine zr_iconst (pc' := 62) dX12_rules_61 rfl ?_
      refine zr_put (pc' := 65) dX12_rules_62 rfl ps_102 kd_102 fl_X12_275 kc_12 rfl nf_102_38 rfl trivial (fun M10 hM1 => ?_)
      have h := h M10 hM1
      refine zr_aload_n (pc' := 66) (i := 0) dX12_rules_65 rfl rfl rfl ?_
      refine zr_iconst (pc' := 67) dX12_rules_66 rfl ?_
      refine zr_put (pc' := 70) dX12_rules_67 rfl ps_102 kd_102 fl_X12_281 kc_12 rfl nf_102_39 rfl trivial (fun M11 hM1 => ?_)
      have h := h M11 hM1
      refine zr_aload_n (pc' := 71) (i := 0) dX12_rules_70 rfl rfl rfl ?_
      refine zn_callV (pc' := 74) (args := []) (st := []) (st' := fun _ => []) dX12_rules_71 rfl cv_X12_311 ⟨rfl, rfl, by decide, by decide⟩ rfl ps_102 kd_102 rfl rfl (Nat.le_of_ble_eq_true rfl) (fun _ => rfl) h ?_
      intro r12 M13 h
      obtain ⟨n', h⟩ := h
      exact zn_al ((key n').1  _ h) ⟨rfl, trivial⟩
    · have h := h.2.2 hc
      refine zr_bipush (pc' := 19) dX12_rules_17 rfl rfl ?_
      exact zr_ireturn dX12_rules_19 rfl rfl trivial (Nat.le_refl _) (Nat.le_refl _) (And.intro rfl h)
set_option maxRecDepth 20000 in
theorem vcX12_fault {E : zE} {M : zM} {Q : Int → zM → Prop} (l1 : Int)
    (h : (∀ M1, M1 = zup M 102 2 0 → ((zR l1) ∧ ((¬ l1 = 0 → ((zR l1) ∧ ((¬ l1 = 1 → Q (-1) M1) ∧ (l1 = 1 → Q (M1 102 16) M1)))) ∧ (l1 = 0 → Q (M1 102 15) M1)))))
    : zP E mX12_fault [.inr (.inr 102), .inl l1] M Q := by
  refine zP_of (by decide +kernel) rfl (Nat.le_of_ble_eq_true rfl) ?_
  show zA E zNN (0, 0) mX12_fault 0 [(0, .inr (.inr 102)), (1, .inl l1)] [] M (zQ Q)
  refine zr_aload_n (pc' := 1) (i := 0) dX12_fault_0 rfl rfl rfl ?_
  refine zr_iconst (pc' := 2) dX12_fault_1 rfl ?_
  refine zr_put (pc' := 5) dX12_fault_2 rfl ps_102 kd_102 fl_X12_208 kc_12 rfl nf_102_2 rfl trivial (fun M1 hM1 => ?_)
  have h := h M1 hM1
  refine zr_iload_n (pc' := 6) (i := 1) dX12_fault_5 rfl rfl rfl ?_
  refine zr_if_ne (tgt := 16) (pc' := 9) dX12_fault_6 rfl rfl h.1 (fun hc => ?_) (fun hc => ?_)
  · have h := h.2.1 hc
    refine zr_iload_n (pc' := 17) (i := 1) dX12_fault_16 rfl rfl rfl ?_
    refine zr_iconst (pc' := 18) dX12_fault_17 rfl ?_
    refine zr_icmp_ne (tgt := 28) (pc' := 21) dX12_fault_18 rfl rfl h.1 (zRd rfl) (fun hc => ?_) (fun hc => ?_)
    · have h := h.2.1 hc
      refine zr_iconst (pc' := 29) dX12_fault_28 rfl ?_
      exact zr_ireturn dX12_fault_29 rfl rfl trivial (Nat.le_refl _) (Nat.le_refl _) (And.intro rfl h)
    · have h := h.2.2 hc
      refine zr_aload_n (pc' := 22) (i := 0) dX12_fault_21 rfl rfl rfl ?_
      refine zr_get (pc' := 25) dX12_fault_22 rfl ps_102 kd_102 fl_X12_41 kc_12 (gv_102_16 _) ?_
      refine zr_goto (pc' := 29) dX12_fault_25 rfl ?_
      exact zr_ireturn dX12_fault_29 rfl rfl trivial (Nat.le_refl _) (Nat.le_refl _) (And.intro rfl h)
  · have h := h.2.2 hc
    refine zr_aload_n (pc' := 10) (i := 0) dX12_fault_9 rfl rfl rfl ?_
    refine zr_get (pc' := 13) dX12_fault_10 rfl ps_102 kd_102 fl_X12_238 kc_12 (gv_102_15 _) ?_
    refine zr_goto (pc' := 29) dX12_fault_13 rfl ?_
    exact zr_ireturn dX12_fault_29 rfl rfl trivial (Nat.le_refl _) (Nat.le_refl _) (And.intro rfl h)
set_option maxRecDepth 20000 in
theorem vcX12_whatValue {E : zE} {M : zM} {Q : Int → zM → Prop} (l1 l2 l3 l4 : Int) (I54 : Nat → Int → Int → Int → Int → Int → Int → Int → Int → Int → Int → Int → zM → Prop) (I69 : Nat → Int → Int → Int → Int → Int → Int → Int → Int → Int → Int → Int → Int → Int → zM → Prop)
    (h : ((zR ((l4 - l3) + 1)) ∧ ((0 ≤ ((l4 - l3) + 1) → ∃ n', I54 n' l1 l2 l4 0 0 0 (-9223372036854775808) (-9223372036854775808) (-9223372036854775808) (-9223372036854775808) ((l4 - l3) + 1) M) ∧ (((l4 - l3) + 1) < 0 → ∃ n', I54 n' l1 l2 l4 0 0 0 (-9223372036854775808) (-9223372036854775808) (-9223372036854775808) (-9223372036854775808) 0 M))))
    (h54 : ∀ (n : Nat) (l1 l2 l4 l6 l7 l8 l10 l12 l14 l16 l18 : Int) (M : zM), I54 n l1 l2 l4 l6 l7 l8 l10 l12 l14 l16 l18 M → ((zR l18 ∧ zR l4) ∧ ((l4 < l18 → (zR l1 ∧ ((l1 < 5 ∨ 10 < l1) → zR l7 ∧ Q l7 M) ∧ (l1 = 5 → Q l16 M) ∧ (l1 = 6 → Q l14 M) ∧ (l1 = 7 → Q l8 M) ∧ (l1 = 8 → Q l10 M) ∧ (l1 = 9 → Q l12 M) ∧ (l1 = 10 → zR l6 ∧ Q l6 M))) ∧ (l18 ≤ l4 → ∃ n', n' < n ∧ I69 n' l1 l2 l4 l6 l7 l8 l10 l12 l14 l16 l18 (-9223372036854775808) 0 M))))
    (h69 : ∀ (n : Nat) (l1 l2 l4 l6 l7 l8 l10 l12 l14 l16 l18 l19 l21 : Int) (M : zM), I69 n l1 l2 l4 l6 l7 l8 l10 l12 l14 l16 l18 l19 l21 M → ((zR l21 ∧ zR (M 102 4)) ∧ (((M 102 4) ≤ l21 → ((zL l19) ∧ ((¬ l19 = (-9223372036854775808) → ((zL l14) ∧ ((¬ l14 = (-9223372036854775808) → ∃ n', n' < n ∧ I54 n' l1 l2 l4 l6 l7 l8 l10 l12 l14 l19 (l18 + 1) M) ∧ (l14 = (-9223372036854775808) → ∃ n', n' < n ∧ I54 n' l1 l2 l4 l6 l7 l8 l10 l12 l19 l19 (l18 + 1) M)))) ∧ (l19 = (-9223372036854775808) → ∃ n', n' < n ∧ I54 n' l1 l2 l4 l6 l7 l8 l10 l12 l14 l16 (l18 + 1) M)))) ∧ (l21 < (M 102 4) → (0 ≤ l21 ∧ l21 < 8) ∧ ((zR (M 104 l21.toNat) ∧ zR l2) ∧ (((M 104 l21.toNat) = l2 → (0 ≤ (100 * l21) + l18 ∧ (100 * l21) + l18 < 800) ∧ ((zR (M 110 (((100 * l21) + l18).toNat))) ∧ ((¬ (M 110 (((100 * l21) + l18).toNat)) = 0 → (0 ≤ (100 * l21) + l18 ∧ (100 * l21) + l18 < 800) ∧ zR (M 111 (((100 * l21) + l18).toNat)) ∧ ((zL l19) ∧ ((l19 = (-9223372036854775808) → ((zL l10) ∧ ((l10 = (-9223372036854775808) → ((zL l12) ∧ ((l12 = (-9223372036854775808) → ∃ n', n' < n ∧ I69 n' l1 l2 l4 (l6 + 1) l7 (l8 + (M 111 (((100 * l21) + l18).toNat))) (M 111 (((100 * l21) + l18).toNat)) (M 111 (((100 * l21) + l18).toNat)) l14 l16 l18 (M 111 (((100 * l21) + l18).toNat)) (l21 + 1) M) ∧ (¬ l12 = (-9223372036854775808) → ((zL (M 111 (((100 * l21) + l18).toNat)) ∧ zL l12) ∧ ((l12 ≤ (M 111 (((100 * l21) + l18).toNat)) → ∃ n', n' < n ∧ I69 n' l1 l2 l4 (l6 + 1) l7 (l8 + (M 111 (((100 * l21) + l18).toNat))) (M 111 (((100 * l21) + l18).toNat)) l12 l14 l16 l18 (M 111 (((100 * l21) + l18).toNat)) (l21 + 1) M) ∧ ((M 111 (((100 * l21) + l18).toNat)) < l12 → ∃ n', n' < n ∧ I69 n' l1 l2 l4 (l6 + 1) l7 (l8 + (M 111 (((100 * l21) + l18).toNat))) (M 111 (((100 * l21) + l18).toNat)) (M 111 (((100 * l21) + l18).toNat)) l14 l16 l18 (M 111 (((100 * l21) + l18).toNat)) (l21 + 1) M))))))) ∧ (¬ l10 = (-9223372036854775808) → ((zL (M 111 (((100 * l21) + l18).toNat)) ∧ zL l10) ∧ (((M 111 (((100 * l21) + l18).toNat)) ≤ l10 → ((zL l12) ∧ ((l12 = (-9223372036854775808) → ∃ n', n' < n ∧ I69 n' l1 l2 l4 (l6 + 1) l7 (l8 + (M 111 (((100 * l21) + l18).toNat))) l10 (M 111 (((100 * l21) + l18).toNat)) l14 l16 l18 (M 111 (((100 * l21) + l18).toNat)) (l21 + 1) M) ∧ (¬ l12 = (-9223372036854775808) → ((zL (M 111 (((100 * l21) + l18).toNat)) ∧ zL l12) ∧ ((l12 ≤ (M 111 (((100 * l21) + l18).toNat)) → ∃ n', n' < n ∧ I69 n' l1 l2 l4 (l6 + 1) l7 (l8 + (M 111 (((100 * l21) + l18).toNat))) l10 l12 l14 l16 l18 (M 111 (((100 * l21) + l18).toNat)) (l21 + 1) M) ∧ ((M 111 (((100 * l21) + l18).toNat)) < l12 → ∃ n', n' < n ∧ I69 n' l1 l2 l4 (l6 + 1) l7 (l8 + (M 111 (((100 * l21) + l18).toNat))) l10 (M 111 (((100 * l21) + l18).toNat)) l14 l16 l18 (M 111 (((100 * l21) + l18).toNat)) (l21 + 1) M))))))) ∧ (l10 < (M 111 (((100 * l21) + l18).toNat)) → ((zL l12) ∧ ((l12 = (-9223372036854775808) → ∃ n', n' < n ∧ I69 n' l1 l2 l4 (l6 + 1) l7 (l8 + (M 111 (((100 * l21) + l18).toNat))) (M 111 (((100 * l21) + l18).toNat)) (M 111 (((100 * l21) + l18).toNat)) l14 l16 l18 (M 111 (((100 * l21) + l18).toNat)) (l21 + 1) M) ∧ (¬ l12 = (-9223372036854775808) → ((zL (M 111 (((100 * l21) + l18).toNat)) ∧ zL l12) ∧ ((l12 ≤ (M 111 (((100 * l21) + l18).toNat)) → ∃ n', n' < n ∧ I69 n' l1 l2 l4 (l6 + 1) l7 (l8 + (M 111 (((100 * l21) + l18).toNat))) (M 111 (((100 * l21) + l18).toNat)) l12 l14 l16 l18 (M 111 (((100 * l21) + l18).toNat)) (l21 + 1) M) ∧ ((M 111 (((100 * l21) + l18).toNat)) < l12 → ∃ n', n' < n ∧ I69 n' l1 l2 l4 (l6 + 1) l7 (l8 + (M 111 (((100 * l21) + l18).toNat))) (M 111 (((100 * l21) + l18).toNat)) (M 111 (((100 * l21) + l18).toNat)) l14 l16 l18 (M 111 (((100 * l21) + l18).toNat)) (l21 + 1) M))))))))))))) ∧ (¬ l19 = (-9223372036854775808) → ((zL (M 111 (((100 * l21) + l18).toNat)) ∧ zL l19) ∧ (((M 111 (((100 * l21) + l18).toNat)) ≤ l19 → ((zL l10) ∧ ((l10 = (-9223372036854775808) → ((zL l12) ∧ ((l12 = (-9223372036854775808) → ∃ n', n' < n ∧ I69 n' l1 l2 l4 (l6 + 1) l7 (l8 + (M 111 (((100 * l21) + l18).toNat))) (M 111 (((100 * l21) + l18).toNat)) (M 111 (((100 * l21) + l18).toNat)) l14 l16 l18 l19 (l21 + 1) M) ∧ (¬ l12 = (-9223372036854775808) → ((zL (M 111 (((100 * l21) + l18).toNat)) ∧ zL l12) ∧ ((l12 ≤ (M 111 (((100 * l21) + l18).toNat)) → ∃ n', n' < n ∧ I69 n' l1 l2 l4 (l6 + 1) l7 (l8 + (M 111 (((100 * l21) + l18).toNat))) (M 111 (((100 * l21) + l18).toNat)) l12 l14 l16 l18 l19 (l21 + 1) M) ∧ ((M 111 (((100 * l21) + l18).toNat)) < l12 → ∃ n', n' < n ∧ I69 n' l1 l2 l4 (l6 + 1) l7 (l8 + (M 111 (((100 * l21) + l18).toNat))) (M 111 (((100 * l21) + l18).toNat)) (M 111 (((100 * l21) + l18).toNat)) l14 l16 l18 l19 (l21 + 1) M))))))) ∧ (¬ l10 = (-9223372036854775808) → ((zL (M 111 (((100 * l21) + l18).toNat)) ∧ zL l10) ∧ (((M 111 (((100 * l21) + l18).toNat)) ≤ l10 → ((zL l12) ∧ ((l12 = (-9223372036854775808) → ∃ n', n' < n ∧ I69 n' l1 l2 l4 (l6 + 1) l7 (l8 + (M 111 (((100 * l21) + l18).toNat))) l10 (M 111 (((100 * l21) + l18).toNat)) l14 l16 l18 l19 (l21 + 1) M) ∧ (¬ l12 = (-9223372036854775808) → ((zL (M 111 (((100 * l21) + l18).toNat)) ∧ zL l12) ∧ ((l12 ≤ (M 111 (((100 * l21) + l18).toNat)) → ∃ n', n' < n ∧ I69 n' l1 l2 l4 (l6 + 1) l7 (l8 + (M 111 (((100 * l21) + l18).toNat))) l10 l12 l14 l16 l18 l19 (l21 + 1) M) ∧ ((M 111 (((100 * l21) + l18).toNat)) < l12 → ∃ n', n' < n ∧ I69 n' l1 l2 l4 (l6 + 1) l7 (l8 + (M 111 (((100 * l21) + l18).toNat))) l10 (M 111 (((100 * l21) + l18).toNat)) l14 l16 l18 l19 (l21 + 1) M))))))) ∧ (l10 < (M 111 (((100 * l21) + l18).toNat)) → ((zL l12) ∧ ((l12 = (-9223372036854775808) → ∃ n', n' < n ∧ I69 n' l1 l2 l4 (l6 + 1) l7 (l8 + (M 111 (((100 * l21) + l18).toNat))) (M 111 (((100 * l21) + l18).toNat)) (M 111 (((100 * l21) + l18).toNat)) l14 l16 l18 l19 (l21 + 1) M) ∧ (¬ l12 = (-9223372036854775808) → ((zL (M 111 (((100 * l21) + l18).toNat)) ∧ zL l12) ∧ ((l12 ≤ (M 111 (((100 * l21) + l18).toNat)) → ∃ n', n' < n ∧ I69 n' l1 l2 l4 (l6 + 1) l7 (l8 + (M 111 (((100 * l21) + l18).toNat))) (M 111 (((100 * l21) + l18).toNat)) l12 l14 l16 l18 l19 (l21 + 1) M) ∧ ((M 111 (((100 * l21) + l18).toNat)) < l12 → ∃ n', n' < n ∧ I69 n' l1 l2 l4 (l6 + 1) l7 (l8 + (M 111 (((100 * l21) + l18).toNat))) (M 111 (((100 * l21) + l18).toNat)) (M 111 (((100 * l21) + l18).toNat)) l14 l16 l18 l19 (l21 + 1) M))))))))))))) ∧ (l19 < (M 111 (((100 * l21) + l18).toNat)) → ((zL l10) ∧ ((l10 = (-9223372036854775808) → ((zL l12) ∧ ((l12 = (-9223372036854775808) → ∃ n', n' < n ∧ I69 n' l1 l2 l4 (l6 + 1) l7 (l8 + (M 111 (((100 * l21) + l18).toNat))) (M 111 (((100 * l21) + l18).toNat)) (M 111 (((100 * l21) + l18).toNat)) l14 l16 l18 (M 111 (((100 * l21) + l18).toNat)) (l21 + 1) M) ∧ (¬ l12 = (-9223372036854775808) → ((zL (M 111 (((100 * l21) + l18).toNat)) ∧ zL l12) ∧ ((l12 ≤ (M 111 (((100 * l21) + l18).toNat)) → ∃ n', n' < n ∧ I69 n' l1 l2 l4 (l6 + 1) l7 (l8 + (M 111 (((100 * l21) + l18).toNat))) (M 111 (((100 * l21) + l18).toNat)) l12 l14 l16 l18 (M 111 (((100 * l21) + l18).toNat)) (l21 + 1) M) ∧ ((M 111 (((100 * l21) + l18).toNat)) < l12 → ∃ n', n' < n ∧ I69 n' l1 l2 l4 (l6 + 1) l7 (l8 + (M 111 (((100 * l21) + l18).toNat))) (M 111 (((100 * l21) + l18).toNat)) (M 111 (((100 * l21) + l18).toNat)) l14 l16 l18 (M 111 (((100 * l21) + l18).toNat)) (l21 + 1) M))))))) ∧ (¬ l10 = (-9223372036854775808) → ((zL (M 111 (((100 * l21) + l18).toNat)) ∧ zL l10) ∧ (((M 111 (((100 * l21) + l18).toNat)) ≤ l10 → ((zL l12) ∧ ((l12 = (-9223372036854775808) → ∃ n', n' < n ∧ I69 n' l1 l2 l4 (l6 + 1) l7 (l8 + (M 111 (((100 * l21) + l18).toNat))) l10 (M 111 (((100 * l21) + l18).toNat)) l14 l16 l18 (M 111 (((100 * l21) + l18).toNat)) (l21 + 1) M) ∧ (¬ l12 = (-9223372036854775808) → ((zL (M 111 (((100 * l21) + l18).toNat)) ∧ zL l12) ∧ ((l12 ≤ (M 111 (((100 * l21) + l18).toNat)) → ∃ n', n' < n ∧ I69 n' l1 l2 l4 (l6 + 1) l7 (l8 + (M 111 (((100 * l21) + l18).toNat))) l10 l12 l14 l16 l18 (M 111 (((100 * l21) + l18).toNat)) (l21 + 1) M) ∧ ((M 111 (((100 * l21) + l18).toNat)) < l12 → ∃ n', n' < n ∧ I69 n' l1 l2 l4 (l6 + 1) l7 (l8 + (M 111 (((100 * l21) + l18).toNat))) l10 (M 111 (((100 * l21) + l18).toNat)) l14 l16 l18 (M 111 (((100 * l21) + l18).toNat)) (l21 + 1) M))))))) ∧ (l10 < (M 111 (((100 * l21) + l18).toNat)) → ((zL l12) ∧ ((l12 = (-9223372036854775808) → ∃ n', n' < n ∧ I69 n' l1 l2 l4 (l6 + 1) l7 (l8 + (M 111 (((100 * l21) + l18).toNat))) (M 111 (((100 * l21) + l18).toNat)) (M 111 (((100 * l21) + l18).toNat)) l14 l16 l18 (M 111 (((100 * l21) + l18).toNat)) (l21 + 1) M) ∧ (¬ l12 = (-9223372036854775808) → ((zL (M 111 (((100 * l21) + l18).toNat)) ∧ zL l12) ∧ ((l12 ≤ (M 111 (((100 * l21) + l18).toNat)) → ∃ n', n' < n ∧ I69 n' l1 l2 l4 (l6 + 1) l7 (l8 + (M 111 (((100 * l21) + l18).toNat))) (M 111 (((100 * l21) + l18).toNat)) l12 l14 l16 l18 (M 111 (((100 * l21) + l18).toNat)) (l21 + 1) M) ∧ ((M 111 (((100 * l21) + l18).toNat)) < l12 → ∃ n', n' < n ∧ I69 n' l1 l2 l4 (l6 + 1) l7 (l8 + (M 111 (((100 * l21) + l18).toNat))) (M 111 (((100 * l21) + l18).toNat)) (M 111 (((100 * l21) + l18).toNat)) l14 l16 l18 (M 111 (((100 * l21) + l18).toNat)) (l21 + 1) M))))))))))))))))))) ∧ ((M 110 (((100 * l21) + l18).toNat)) = 0 → ∃ n', n' < n ∧ I69 n' l1 l2 l4 l6 (l7 + 1) l8 l10 l12 l14 l16 l18 l19 (l21 + 1) M)))) ∧ (¬ (M 104 l21.toNat) = l2 → ∃ n', n' < n ∧ I69 n' l1 l2 l4 l6 l7 l8 l10 l12 l14 l16 l18 l19 (l21 + 1) M)))))))
    : zP E mX12_whatValue [.inr (.inr 102), .inl l1, .inl l2, .inl l3, .inl l4] M Q := by
  have key : ∀ n : Nat, (∀ (l1 l2 l4 l6 l7 l8 l10 l12 l14 l16 l18 : Int) (M : zM), I54 n l1 l2 l4 l6 l7 l8 l10 l12 l14 l16 l18 M → zA E zNN (0, 0) mX12_whatValue 54 [(0, .inr (.inr 102)), (1, .inl l1), (2, .inl l2), (4, .inl l4), (6, .inl l6), (7, .inl l7), (8, .inr (.inl l8)), (10, .inr (.inl l10)), (12, .inr (.inl l12)), (14, .inr (.inl l14)), (16, .inr (.inl l16)), (18, .inl l18)] [] M (zQ Q)) ∧ (∀ (l1 l2 l4 l6 l7 l8 l10 l12 l14 l16 l18 l19 l21 : Int) (M : zM), I69 n l1 l2 l4 l6 l7 l8 l10 l12 l14 l16 l18 l19 l21 M → zA E zNN (0, 0) mX12_whatValue 69 [(0, .inr (.inr 102)), (1, .inl l1), (2, .inl l2), (4, .inl l4), (6, .inl l6), (7, .inl l7), (8, .inr (.inl l8)), (10, .inr (.inl l10)), (12, .inr (.inl l12)), (14, .inr (.inl l14)), (16, .inr (.inl l16)), (18, .inl l18), (19, .inr (.inl l19)), (21, .inl l21)] [] M (zQ Q)) := by
    intro n
    induction n using Nat.strongRecOn with
    | ind n ih =>
      refine ⟨?_, ?_⟩
      · intro l1 l2 l4 l6 l7 l8 l10 l12 l14 l16 l18 M h
        have h := h54 n l1 l2 l4 l6 l7 l8 l10 l12 l14 l16 l18 M h
        refine zr_iload (pc' := 56) dX12_whatValue_54 rfl rfl ?_
        refine zr_iload (pc' := 58) dX12_whatValue_56 rfl rfl ?_
        refine zr_icmp_gt (tgt := 259) (pc' := 61) dX12_whatValue_58 rfl rfl h.1.1 h.1.2 (fun hc => ?_) (fun hc => ?_)
        · have h := h.2.1 hc
          refine zr_iload_n (pc' := 260) (i := 1) dX12_whatValue_259 rfl rfl rfl ?_
          by_cases hsw : l1 < 5 ∨ 10 < l1
          · refine zr_tableOut (tgt := 319) dX12_whatValue_260 h.1 hsw rfl ?_
            have h := h.2.1 hsw
            refine zr_iload (pc' := 321) dX12_whatValue_319 rfl rfl ?_
            refine zr_i2l (pc' := 322) dX12_whatValue_321 rfl h.1 ?_
            have h := h.2
            exact zr_lreturn dX12_whatValue_322 rfl (Nat.le_refl _) (Nat.le_refl _) (And.intro rfl h)
          · have hsx : l1 = 5 ∨ l1 = 6 ∨ l1 = 7 ∨ l1 = 8 ∨ l1 = 9 ∨ l1 = 10 := by omega
            rcases hsx with hsx | hsx | hsx | hsx | hsx | hsx
            · refine zr_tableIn (off := 40) (tgt := 300) dX12_whatValue_260 h.1 (by omega) (by omega) (by rw [hsx]; rfl) rfl ?_
              have h := h.2.2.1 hsx
              refine zr_lload (pc' := 302) dX12_whatValue_300 rfl rfl ?_
              exact zr_lreturn dX12_whatValue_302 rfl (Nat.le_refl _) (Nat.le_refl _) (And.intro rfl h)
            · refine zr_tableIn (off := 43) (tgt := 303) dX12_whatValue_260 h.1 (by omega) (by omega) (by rw [hsx]; rfl) rfl ?_
              have h := h.2.2.2.1 hsx
              refine zr_lload (pc' := 305) dX12_whatValue_303 rfl rfl ?_
              exact zr_lreturn dX12_whatValue_305 rfl (Nat.le_refl _) (Nat.le_refl _) (And.intro rfl h)
            · refine zr_tableIn (off := 46) (tgt := 306) dX12_whatValue_260 h.1 (by omega) (by omega) (by rw [hsx]; rfl) rfl ?_
              have h := h.2.2.2.2.1 hsx
              refine zr_lload (pc' := 308) dX12_whatValue_306 rfl rfl ?_
              exact zr_lreturn dX12_whatValue_308 rfl (Nat.le_refl _) (Nat.le_refl _) (And.intro rfl h)
            · refine zr_tableIn (off := 49) (tgt := 309) dX12_whatValue_260 h.1 (by omega) (by omega) (by rw [hsx]; rfl) rfl ?_
              have h := h.2.2.2.2.2.1 hsx
              refine zr_lload (pc' := 311) dX12_whatValue_309 rfl rfl ?_
              exact zr_lreturn dX12_whatValue_311 rfl (Nat.le_refl _) (Nat.le_refl _) (And.intro rfl h)
            · refine zr_tableIn (off := 52) (tgt := 312) dX12_whatValue_260 h.1 (by omega) (by omega) (by rw [hsx]; rfl) rfl ?_
              have h := h.2.2.2.2.2.2.1 hsx
              refine zr_lload (pc' := 314) dX12_whatValue_312 rfl rfl ?_
              exact zr_lreturn dX12_whatValue_314 rfl (Nat.le_refl _) (Nat.le_refl _) (And.intro rfl h)
            · refine zr_tableIn (off := 55) (tgt := 315) dX12_whatValue_260 h.1 (by omega) (by omega) (by rw [hsx]; rfl) rfl ?_
              have h := h.2.2.2.2.2.2.2 hsx
              refine zr_iload (pc' := 317) dX12_whatValue_315 rfl rfl ?_
              refine zr_i2l (pc' := 318) dX12_whatValue_317 rfl h.1 ?_
              have h := h.2
              exact zr_lreturn dX12_whatValue_318 rfl (Nat.le_refl _) (Nat.le_refl _) (And.intro rfl h)
        · have h := h.2.2 hc
          refine zr_ldc2 (pc' := 64) (x := -9223372036854775808) dX12_whatValue_61 rfl ci_X12_375 ?_
          refine zr_lstore (pc' := 66) (al' := [(19, .inr (.inl (-9223372036854775808))), (0, .inr (.inr 102)), (1, .inl l1), (2, .inl l2), (4, .inl l4), (6, .inl l6), (7, .inl l7), (8, .inr (.inl l8)), (10, .inr (.inl l10)), (12, .inr (.inl l12)), (14, .inr (.inl l14)), (16, .inr (.inl l16)), (18, .inl l18)]) dX12_whatValue_64 rfl (by decide) rfl ?_
          refine zr_iconst (pc' := 67) dX12_whatValue_66 rfl ?_
          refine zr_istore (pc' := 69) (al' := [(21, .inl 0), (19, .inr (.inl (-9223372036854775808))), (0, .inr (.inr 102)), (1, .inl l1), (2, .inl l2), (4, .inl l4), (6, .inl l6), (7, .inl l7), (8, .inr (.inl l8)), (10, .inr (.inl l10)), (12, .inr (.inl l12)), (14, .inr (.inl l14)), (16, .inr (.inl l16)), (18, .inl l18)]) dX12_whatValue_67 rfl (by decide) rfl ?_
          obtain ⟨n', hn, h⟩ := h
          exact zn_al ((ih n' hn).2 _ _ _ _ _ _ _ _ _ _ _ _ _ _ h) ⟨rfl, rfl, rfl, rfl, rfl, rfl, rfl, rfl, rfl, rfl, rfl, rfl, rfl, rfl, trivial⟩
      · intro l1 l2 l4 l6 l7 l8 l10 l12 l14 l16 l18 l19 l21 M h
        have h := h69 n l1 l2 l4 l6 l7 l8 l10 l12 l14 l16 l18 l19 l21 M h
        refine zr_iload (pc' := 71) dX12_whatValue_69 rfl rfl ?_
        refine zr_aload_n (pc' := 72) (i := 0) dX12_whatValue_71 rfl rfl rfl ?_
        refine zr_get (pc' := 75) dX12_whatValue_72 rfl ps_102 kd_102 fl_X12_221 kc_12 (gv_102_4 _) ?_
        refine zr_icmp_ge (tgt := 224) (pc' := 78) dX12_whatValue_75 rfl rfl h.1.1 h.1.2 (fun hc => ?_) (fun hc => ?_)
        · have h := h.2.1 hc
          refine zr_lload (pc' := 226) dX12_whatValue_224 rfl rfl ?_
          refine zr_ldc2 (pc' := 229) (x := -9223372036854775808) dX12_whatValue_226 rfl ci_X12_375 ?_
          refine zn_lif_ne (tgt := 236) (pc1 := 230) (pc' := 233) dX12_whatValue_229 rfl dX12_whatValue_230 rfl rfl h.1 (zLd rfl) (fun hc => ?_) (fun hc => ?_)
          · have h := h.2.1 hc
            refine zr_lload (pc' := 238) dX12_whatValue_236 rfl rfl ?_
            refine zr_lstore (pc' := 240) (al' := [(16, .inr (.inl l19)), (0, .inr (.inr 102)), (1, .inl l1), (2, .inl l2), (4, .inl l4), (6, .inl l6), (7, .inl l7), (8, .inr (.inl l8)), (10, .inr (.inl l10)), (12, .inr (.inl l12)), (14, .inr (.inl l14)), (18, .inl l18), (19, .inr (.inl l19)), (21, .inl l21)]) dX12_whatValue_238 rfl (by decide) rfl ?_
            refine zr_lload (pc' := 242) dX12_whatValue_240 rfl rfl ?_
            refine zr_ldc2 (pc' := 245) (x := -9223372036854775808) dX12_whatValue_242 rfl ci_X12_375 ?_
            refine zn_lif_ne (tgt := 253) (pc1 := 246) (pc' := 249) dX12_whatValue_245 rfl dX12_whatValue_246 rfl rfl h.1 (zLd rfl) (fun hc => ?_) (fun hc => ?_)
            · have h := h.2.1 hc
              refine zr_iinc (pc' := 256) (al' := [(18, .inl (l18 + 1)), (16, .inr (.inl l19)), (0, .inr (.inr 102)), (1, .inl l1), (2, .inl l2), (4, .inl l4), (6, .inl l6), (7, .inl l7), (8, .inr (.inl l8)), (10, .inr (.inl l10)), (12, .inr (.inl l12)), (14, .inr (.inl l14)), (19, .inr (.inl l19)), (21, .inl l21)]) dX12_whatValue_253 rfl rfl (by decide) rfl ?_
              refine zr_goto (pc' := 54) dX12_whatValue_256 rfl ?_
              obtain ⟨n', hn, h⟩ := h
              exact zn_al ((ih n' hn).1 _ _ _ _ _ _ _ _ _ _ _ _ h) ⟨rfl, rfl, rfl, rfl, rfl, rfl, rfl, rfl, rfl, rfl, rfl, rfl, trivial⟩
            · have h := h.2.2 hc
              refine zr_lload (pc' := 251) dX12_whatValue_249 rfl rfl ?_
              refine zr_lstore (pc' := 253) (al' := [(14, .inr (.inl l19)), (16, .inr (.inl l19)), (0, .inr (.inr 102)), (1, .inl l1), (2, .inl l2), (4, .inl l4), (6, .inl l6), (7, .inl l7), (8, .inr (.inl l8)), (10, .inr (.inl l10)), (12, .inr (.inl l12)), (18, .inl l18), (19, .inr (.inl l19)), (21, .inl l21)]) dX12_whatValue_251 rfl (by decide) rfl ?_
              refine zr_iinc (pc' := 256) (al' := [(18, .inl (l18 + 1)), (14, .inr (.inl l19)), (16, .inr (.inl l19)), (0, .inr (.inr 102)), (1, .inl l1), (2, .inl l2), (4, .inl l4), (6, .inl l6), (7, .inl l7), (8, .inr (.inl l8)), (10, .inr (.inl l10)), (12, .inr (.inl l12)), (19, .inr (.inl l19)), (21, .inl l21)]) dX12_whatValue_253 rfl rfl (by decide) rfl ?_
              refine zr_goto (pc' := 54) dX12_whatValue_256 rfl ?_
              obtain ⟨n', hn, h⟩ := h
              exact zn_al ((ih n' hn).1 _ _ _ _ _ _ _ _ _ _ _ _ h) ⟨rfl, rfl, rfl, rfl, rfl, rfl, rfl, rfl, rfl, rfl, rfl, rfl, trivial⟩
          · have h := h.2.2 hc
            refine zr_goto (pc' := 253) dX12_whatValue_233 rfl ?_
            refine zr_iinc (pc' := 256) (al' := [(18, .inl (l18 + 1)), (0, .inr (.inr 102)), (1, .inl l1), (2, .inl l2), (4, .inl l4), (6, .inl l6), (7, .inl l7), (8, .inr (.inl l8)), (10, .inr (.inl l10)), (12, .inr (.inl l12)), (14, .inr (.inl l14)), (16, .inr (.inl l16)), (19, .inr (.inl l19)), (21, .inl l21)]) dX12_whatValue_253 rfl rfl (by decide) rfl ?_
            refine zr_goto (pc' := 54) dX12_whatValue_256 rfl ?_
            obtain ⟨n', hn, h⟩ := h
            exact zn_al ((ih n' hn).1 _ _ _ _ _ _ _ _ _ _ _ _ h) ⟨rfl, rfl, rfl, rfl, rfl, rfl, rfl, rfl, rfl, rfl, rfl, rfl, trivial⟩
        · have h := h.2.2 hc
          refine zr_aload_n (pc' := 79) (i := 0) dX12_whatValue_78 rfl rfl rfl ?_
          refine zr_get (pc' := 82) dX12_whatValue_79 rfl ps_102 kd_102 fl_X12_13 kc_12 (gv_102_5 _) ?_
          refine zr_iload (pc' := 84) dX12_whatValue_82 rfl rfl ?_
          refine zr_iald (pc' := 85) dX12_whatValue_84 rfl ps_104 kd_104 (by decide) h.1.1 h.1.2 ?_
          have h := h.2
          refine zr_iload_n (pc' := 86) (i := 2) dX12_whatValue_85 rfl rfl rfl ?_
          refine zr_icmp_eq (tgt := 92) (pc' := 89) dX12_whatValue_86 rfl rfl h.1.1 h.1.2 (fun hc => ?_) (fun hc => ?_)
          · have h := h.2.1 hc
            refine zr_aload_n (pc' := 93) (i := 0) dX12_whatValue_92 rfl rfl rfl ?_
            refine zr_get (pc' := 96) dX12_whatValue_93 rfl ps_102 kd_102 fl_X12_32 kc_12 (gv_102_12 _) ?_
            refine zr_bipush (pc' := 98) dX12_whatValue_96 rfl rfl ?_
            refine zr_iload (pc' := 100) dX12_whatValue_98 rfl rfl ?_
            refine zr_imul (pc' := 101) dX12_whatValue_100 rfl ?_
            refine zr_iload (pc' := 103) dX12_whatValue_101 rfl rfl ?_
            refine zr_iadd (pc' := 104) dX12_whatValue_103 rfl ?_
            refine zr_zald (pc' := 105) dX12_whatValue_104 rfl ps_110 kd_110 (by decide) h.1.1 h.1.2 ?_
            have h := h.2
            refine zr_if_ne (tgt := 114) (pc' := 108) dX12_whatValue_105 rfl rfl h.1 (fun hc => ?_) (fun hc => ?_)
            · have h := h.2.1 hc
              refine zr_aload_n (pc' := 115) (i := 0) dX12_whatValue_114 rfl rfl rfl ?_
              refine zr_get (pc' := 118) dX12_whatValue_115 rfl ps_102 kd_102 fl_X12_35 kc_12 (gv_102_13 _) ?_
              refine zr_bipush (pc' := 120) dX12_whatValue_118 rfl rfl ?_
              refine zr_iload (pc' := 122) dX12_whatValue_120 rfl rfl ?_
              refine zr_imul (pc' := 123) dX12_whatValue_122 rfl ?_
              refine zr_iload (pc' := 125) dX12_whatValue_123 rfl rfl ?_
              refine zr_iadd (pc' := 126) dX12_whatValue_125 rfl ?_
              refine zr_iald (pc' := 127) dX12_whatValue_126 rfl ps_111 kd_111 (by decide) h.1.1 h.1.2 ?_
              have h := h.2
              refine zr_i2l (pc' := 128) dX12_whatValue_127 rfl h.1 ?_
              have h := h.2
              refine zr_lstore (pc' := 130) (al' := [(22, .inr (.inl (M 111 (((100 * l21) + l18).toNat)))), (0, .inr (.inr 102)), (1, .inl l1), (2, .inl l2), (4, .inl l4), (6, .inl l6), (7, .inl l7), (8, .inr (.inl l8)), (10, .inr (.inl l10)), (12, .inr (.inl l12)), (14, .inr (.inl l14)), (16, .inr (.inl l16)), (18, .inl l18), (19, .inr (.inl l19)), (21, .inl l21)]) dX12_whatValue_128 rfl (by decide) rfl ?_
              refine zr_iinc (pc' := 133) (al' := [(6, .inl (l6 + 1)), (22, .inr (.inl (M 111 (((100 * l21) + l18).toNat)))), (0, .inr (.inr 102)), (1, .inl l1), (2, .inl l2), (4, .inl l4), (7, .inl l7), (8, .inr (.inl l8)), (10, .inr (.inl l10)), (12, .inr (.inl l12)), (14, .inr (.inl l14)), (16, .inr (.inl l16)), (18, .inl l18), (19, .inr (.inl l19)), (21, .inl l21)]) dX12_whatValue_130 rfl rfl (by decide) rfl ?_
              refine zr_lload (pc' := 135) dX12_whatValue_133 rfl rfl ?_
              refine zr_lload (pc' := 137) dX12_whatValue_135 rfl rfl ?_
              refine zr_ladd (pc' := 138) dX12_whatValue_137 rfl ?_
              refine zr_lstore (pc' := 140) (al' := [(8, .inr (.inl (l8 + (M 111 (((100 * l21) + l18).toNat))))), (6, .inl (l6 + 1)), (22, .inr (.inl (M 111 (((100 * l21) + l18).toNat)))), (0, .inr (.inr 102)), (1, .inl l1), (2, .inl l2), (4, .inl l4), (7, .inl l7), (10, .inr (.inl l10)), (12, .inr (.inl l12)), (14, .inr (.inl l14)), (16, .inr (.inl l16)), (18, .inl l18), (19, .inr (.inl l19)), (21, .inl l21)]) dX12_whatValue_138 rfl (by decide) rfl ?_
              refine zr_lload (pc' := 142) dX12_whatValue_140 rfl rfl ?_
              refine zr_ldc2 (pc' := 145) (x := -9223372036854775808) dX12_whatValue_142 rfl ci_X12_375 ?_
              refine zn_lif_eq (tgt := 157) (pc1 := 146) (pc' := 149) dX12_whatValue_145 rfl dX12_whatValue_146 rfl rfl h.1 (zLd rfl) (fun hc => ?_) (fun hc => ?_)
              · have h := h.2.1 hc
                refine zr_lload (pc' := 159) dX12_whatValue_157 rfl rfl ?_
                refine zr_goto (pc' := 164) dX12_whatValue_159 rfl ?_
                refine zr_lstore (pc' := 166) (al' := [(19, .inr (.inl (M 111 (((100 * l21) + l18).toNat)))), (8, .inr (.inl (l8 + (M 111 (((100 * l21) + l18).toNat))))), (6, .inl (l6 + 1)), (22, .inr (.inl (M 111 (((100 * l21) + l18).toNat)))), (0, .inr (.inr 102)), (1, .inl l1), (2, .inl l2), (4, .inl l4), (7, .inl l7), (10, .inr (.inl l10)), (12, .inr (.inl l12)), (14, .inr (.inl l14)), (16, .inr (.inl l16)), (18, .inl l18), (21, .inl l21)]) dX12_whatValue_164 rfl (by decide) rfl ?_
                refine zr_lload (pc' := 168) dX12_whatValue_166 rfl rfl ?_
                refine zr_ldc2 (pc' := 171) (x := -9223372036854775808) dX12_whatValue_168 rfl ci_X12_375 ?_
                refine zn_lif_eq (tgt := 183) (pc1 := 172) (pc' := 175) dX12_whatValue_171 rfl dX12_whatValue_172 rfl rfl h.1 (zLd rfl) (fun hc => ?_) (fun hc => ?_)
                · have h := h.2.1 hc
                  refine zr_lload (pc' := 185) dX12_whatValue_183 rfl rfl ?_
                  refine zr_goto (pc' := 190) dX12_whatValue_185 rfl ?_
                  refine zr_lstore (pc' := 192) (al' := [(10, .inr (.inl (M 111 (((100 * l21) + l18).toNat)))), (19, .inr (.inl (M 111 (((100 * l21) + l18).toNat)))), (8, .inr (.inl (l8 + (M 111 (((100 * l21) + l18).toNat))))), (6, .inl (l6 + 1)), (22, .inr (.inl (M 111 (((100 * l21) + l18).toNat)))), (0, .inr (.inr 102)), (1, .inl l1), (2, .inl l2), (4, .inl l4), (7, .inl l7), (12, .inr (.inl l12)), (14, .inr (.inl l14)), (16, .inr (.inl l16)), (18, .inl l18), (21, .inl l21)]) dX12_whatValue_190 rfl (by decide) rfl ?_
                  refine zr_lload (pc' := 194) dX12_whatValue_192 rfl rfl ?_
                  refine zr_ldc2 (pc' := 197) (x := -9223372036854775808) dX12_whatValue_194 rfl ci_X12_375 ?_
                  refine zn_lif_eq (tgt := 209) (pc1 := 198) (pc' := 201) dX12_whatValue_197 rfl dX12_whatValue_198 rfl rfl h.1 (zLd rfl) (fun hc => ?_) (fun hc => ?_)
                  · have h := h.2.1 hc
                    refine zr_lload (pc' := 211) dX12_whatValue_209 rfl rfl ?_
                    refine zr_goto (pc' := 216) dX12_whatValue_211 rfl ?_
                    refine zr_lstore (pc' := 218) (al' := [(12, .inr (.inl (M 111 (((100 * l21) + l18).toNat)))), (10, .inr (.inl (M 111 (((100 * l21) + l18).toNat)))), (19, .inr (.inl (M 111 (((100 * l21) + l18).toNat)))), (8, .inr (.inl (l8 + (M 111 (((100 * l21) + l18).toNat))))), (6, .inl (l6 + 1)), (22, .inr (.inl (M 111 (((100 * l21) + l18).toNat)))), (0, .inr (.inr 102)), (1, .inl l1), (2, .inl l2), (4, .inl l4), (7, .inl l7), (14, .inr (.inl l14)), (16, .inr (.inl l16)), (18, .inl l18), (21, .inl l21)]) dX12_whatValue_216 rfl (by decide) rfl ?_
                    refine zr_iinc (pc' := 221) (al' := [(21, .inl (l21 + 1)), (12, .inr (.inl (M 111 (((100 * l21) + l18).toNat)))), (10, .inr (.inl (M 111 (((100 * l21) + l18).toNat)))), (19, .inr (.inl (M 111 (((100 * l21) + l18).toNat)))), (8, .inr (.inl (l8 + (M 111 (((100 * l21) + l18).toNat))))), (6, .inl (l6 + 1)), (22, .inr (.inl (M 111 (((100 * l21) + l18).toNat)))), (0, .inr (.inr 102)), (1, .inl l1), (2, .inl l2), (4, .inl l4), (7, .inl l7), (14, .inr (.inl l14)), (16, .inr (.inl l16)), (18, .inl l18)]) dX12_whatValue_218 rfl rfl (by decide) rfl ?_
                    refine zr_goto (pc' := 69) dX12_whatValue_221 rfl ?_
                    obtain ⟨n', hn, h⟩ := h
                    exact zn_al ((ih n' hn).2 _ _ _ _ _ _ _ _ _ _ _ _ _ _ h) ⟨rfl, rfl, rfl, rfl, rfl, rfl, rfl, rfl, rfl, rfl, rfl, rfl, rfl, rfl, trivial⟩
                  · have h := h.2.2 hc
                    refine zr_lload (pc' := 203) dX12_whatValue_201 rfl rfl ?_
                    refine zr_lload (pc' := 205) dX12_whatValue_203 rfl rfl ?_
                    refine zn_lif_ge (tgt := 214) (pc1 := 206) (pc' := 209) dX12_whatValue_205 rfl dX12_whatValue_206 rfl rfl h.1.1 h.1.2 (fun hc => ?_) (fun hc => ?_)
                    · have h := h.2.1 hc
                      refine zr_lload (pc' := 216) dX12_whatValue_214 rfl rfl ?_
                      refine zr_lstore (pc' := 218) (al' := [(12, .inr (.inl l12)), (10, .inr (.inl (M 111 (((100 * l21) + l18).toNat)))), (19, .inr (.inl (M 111 (((100 * l21) + l18).toNat)))), (8, .inr (.inl (l8 + (M 111 (((100 * l21) + l18).toNat))))), (6, .inl (l6 + 1)), (22, .inr (.inl (M 111 (((100 * l21) + l18).toNat)))), (0, .inr (.inr 102)), (1, .inl l1), (2, .inl l2), (4, .inl l4), (7, .inl l7), (14, .inr (.inl l14)), (16, .inr (.inl l16)), (18, .inl l18), (21, .inl l21)]) dX12_whatValue_216 rfl (by decide) rfl ?_
                      refine zr_iinc (pc' := 221) (al' := [(21, .inl (l21 + 1)), (12, .inr (.inl l12)), (10, .inr (.inl (M 111 (((100 * l21) + l18).toNat)))), (19, .inr (.inl (M 111 (((100 * l21) + l18).toNat)))), (8, .inr (.inl (l8 + (M 111 (((100 * l21) + l18).toNat))))), (6, .inl (l6 + 1)), (22, .inr (.inl (M 111 (((100 * l21) + l18).toNat)))), (0, .inr (.inr 102)), (1, .inl l1), (2, .inl l2), (4, .inl l4), (7, .inl l7), (14, .inr (.inl l14)), (16, .inr (.inl l16)), (18, .inl l18)]) dX12_whatValue_218 rfl rfl (by decide) rfl ?_
                      refine zr_goto (pc' := 69) dX12_whatValue_221 rfl ?_
                      obtain ⟨n', hn, h⟩ := h
                      exact zn_al ((ih n' hn).2 _ _ _ _ _ _ _ _ _ _ _ _ _ _ h) ⟨rfl, rfl, rfl, rfl, rfl, rfl, rfl, rfl, rfl, rfl, rfl, rfl, rfl, rfl, trivial⟩
                    · have h := h.2.2 hc
                      refine zr_lload (pc' := 211) dX12_whatValue_209 rfl rfl ?_
                      refine zr_goto (pc' := 216) dX12_whatValue_211 rfl ?_
                      refine zr_lstore (pc' := 218) (al' := [(12, .inr (.inl (M 111 (((100 * l21) + l18).toNat)))), (10, .inr (.inl (M 111 (((100 * l21) + l18).toNat)))), (19, .inr (.inl (M 111 (((100 * l21) + l18).toNat)))), (8, .inr (.inl (l8 + (M 111 (((100 * l21) + l18).toNat))))), (6, .inl (l6 + 1)), (22, .inr (.inl (M 111 (((100 * l21) + l18).toNat)))), (0, .inr (.inr 102)), (1, .inl l1), (2, .inl l2), (4, .inl l4), (7, .inl l7), (14, .inr (.inl l14)), (16, .inr (.inl l16)), (18, .inl l18), (21, .inl l21)]) dX12_whatValue_216 rfl (by decide) rfl ?_
                      refine zr_iinc (pc' := 221) (al' := [(21, .inl (l21 + 1)), (12, .inr (.inl (M 111 (((100 * l21) + l18).toNat)))), (10, .inr (.inl (M 111 (((100 * l21) + l18).toNat)))), (19, .inr (.inl (M 111 (((100 * l21) + l18).toNat)))), (8, .inr (.inl (l8 + (M 111 (((100 * l21) + l18).toNat))))), (6, .inl (l6 + 1)), (22, .inr (.inl (M 111 (((100 * l21) + l18).toNat)))), (0, .inr (.inr 102)), (1, .inl l1), (2, .inl l2), (4, .inl l4), (7, .inl l7), (14, .inr (.inl l14)), (16, .inr (.inl l16)), (18, .inl l18)]) dX12_whatValue_218 rfl rfl (by decide) rfl ?_
                      refine zr_goto (pc' := 69) dX12_whatValue_221 rfl ?_
                      obtain ⟨n', hn, h⟩ := h
                      exact zn_al ((ih n' hn).2 _ _ _ _ _ _ _ _ _ _ _ _ _ _ h) ⟨rfl, rfl, rfl, rfl, rfl, rfl, rfl, rfl, rfl, rfl, rfl, rfl, rfl, rfl, trivial⟩
                · have h := h.2.2 hc
                  refine zr_lload (pc' := 177) dX12_whatValue_175 rfl rfl ?_
                  refine zr_lload (pc' := 179) dX12_whatValue_177 rfl rfl ?_
                  refine zn_lif_le (tgt := 188) (pc1 := 180) (pc' := 183) dX12_whatValue_179 rfl dX12_whatValue_180 rfl rfl h.1.1 h.1.2 (fun hc => ?_) (fun hc => ?_)
                  · have h := h.2.1 hc
                    refine zr_lload (pc' := 190) dX12_whatValue_188 rfl rfl ?_
                    refine zr_lstore (pc' := 192) (al' := [(10, .inr (.inl l10)), (19, .inr (.inl (M 111 (((100 * l21) + l18).toNat)))), (8, .inr (.inl (l8 + (M 111 (((100 * l21) + l18).toNat))))), (6, .inl (l6 + 1)), (22, .inr (.inl (M 111 (((100 * l21) + l18).toNat)))), (0, .inr (.inr 102)), (1, .inl l1), (2, .inl l2), (4, .inl l4), (7, .inl l7), (12, .inr (.inl l12)), (14, .inr (.inl l14)), (16, .inr (.inl l16)), (18, .inl l18), (21, .inl l21)]) dX12_whatValue_190 rfl (by decide) rfl ?_
                    refine zr_lload (pc' := 194) dX12_whatValue_192 rfl rfl ?_
                    refine zr_ldc2 (pc' := 197) (x := -9223372036854775808) dX12_whatValue_194 rfl ci_X12_375 ?_
                    refine zn_lif_eq (tgt := 209) (pc1 := 198) (pc' := 201) dX12_whatValue_197 rfl dX12_whatValue_198 rfl rfl h.1 (zLd rfl) (fun hc => ?_) (fun hc => ?_)
                    · have h := h.2.1 hc
                      refine zr_lload (pc' := 211) dX12_whatValue_209 rfl rfl ?_
                      refine zr_goto (pc' := 216) dX12_whatValue_211 rfl ?_
                      refine zr_lstore (pc' := 218) (al' := [(12, .inr (.inl (M 111 (((100 * l21) + l18).toNat)))), (10, .inr (.inl l10)), (19, .inr (.inl (M 111 (((100 * l21) + l18).toNat)))), (8, .inr (.inl (l8 + (M 111 (((100 * l21) + l18).toNat))))), (6, .inl (l6 + 1)), (22, .inr (.inl (M 111 (((100 * l21) + l18).toNat)))), (0, .inr (.inr 102)), (1, .inl l1), (2, .inl l2), (4, .inl l4), (7, .inl l7), (14, .inr (.inl l14)), (16, .inr (.inl l16)), (18, .inl l18), (21, .inl l21)]) dX12_whatValue_216 rfl (by decide) rfl ?_
                      refine zr_iinc (pc' := 221) (al' := [(21, .inl (l21 + 1)), (12, .inr (.inl (M 111 (((100 * l21) + l18).toNat)))), (10, .inr (.inl l10)), (19, .inr (.inl (M 111 (((100 * l21) + l18).toNat)))), (8, .inr (.inl (l8 + (M 111 (((100 * l21) + l18).toNat))))), (6, .inl (l6 + 1)), (22, .inr (.inl (M 111 (((100 * l21) + l18).toNat)))), (0, .inr (.inr 102)), (1, .inl l1), (2, .inl l2), (4, .inl l4), (7, .inl l7), (14, .inr (.inl l14)), (16, .inr (.inl l16)), (18, .inl l18)]) dX12_whatValue_218 rfl rfl (by decide) rfl ?_
                      refine zr_goto (pc' := 69) dX12_whatValue_221 rfl ?_
                      obtain ⟨n', hn, h⟩ := h
                      exact zn_al ((ih n' hn).2 _ _ _ _ _ _ _ _ _ _ _ _ _ _ h) ⟨rfl, rfl, rfl, rfl, rfl, rfl, rfl, rfl, rfl, rfl, rfl, rfl, rfl, rfl, trivial⟩
                    · have h := h.2.2 hc
                      refine zr_lload (pc' := 203) dX12_whatValue_201 rfl rfl ?_
                      refine zr_lload (pc' := 205) dX12_whatValue_203 rfl rfl ?_
                      refine zn_lif_ge (tgt := 214) (pc1 := 206) (pc' := 209) dX12_whatValue_205 rfl dX12_whatValue_206 rfl rfl h.1.1 h.1.2 (fun hc => ?_) (fun hc => ?_)
                      · have h := h.2.1 hc
                        refine zr_lload (pc' := 216) dX12_whatValue_214 rfl rfl ?_
                        refine zr_lstore (pc' := 218) (al' := [(12, .inr (.inl l12)), (10, .inr (.inl l10)), (19, .inr (.inl (M 111 (((100 * l21) + l18).toNat)))), (8, .inr (.inl (l8 + (M 111 (((100 * l21) + l18).toNat))))), (6, .inl (l6 + 1)), (22, .inr (.inl (M 111 (((100 * l21) + l18).toNat)))), (0, .inr (.inr 102)), (1, .inl l1), (2, .inl l2), (4, .inl l4), (7, .inl l7), (14, .inr (.inl l14)), (16, .inr (.inl l16)), (18, .inl l18), (21, .inl l21)]) dX12_whatValue_216 rfl (by decide) rfl ?_
                        refine zr_iinc (pc' := 221) (al' := [(21, .inl (l21 + 1)), (12, .inr (.inl l12)), (10, .inr (.inl l10)), (19, .inr (.inl (M 111 (((100 * l21) + l18).toNat)))), (8, .inr (.inl (l8 + (M 111 (((100 * l21) + l18).toNat))))), (6, .inl (l6 + 1)), (22, .inr (.inl (M 111 (((100 * l21) + l18).toNat)))), (0, .inr (.inr 102)), (1, .inl l1), (2, .inl l2), (4, .inl l4), (7, .inl l7), (14, .inr (.inl l14)), (16, .inr (.inl l16)), (18, .inl l18)]) dX12_whatValue_218 rfl rfl (by decide) rfl ?_
                        refine zr_goto (pc' := 69) dX12_whatValue_221 rfl ?_
                        obtain ⟨n', hn, h⟩ := h
                        exact zn_al ((ih n' hn).2 _ _ _ _ _ _ _ _ _ _ _ _ _ _ h) ⟨rfl, rfl, rfl, rfl, rfl, rfl, rfl, rfl, rfl, rfl, rfl, rfl, rfl, rfl, trivial⟩
                      · have h := h.2.2 hc
                        refine zr_lload (pc' := 211) dX12_whatValue_209 rfl rfl ?_
                        refine zr_goto (pc' := 216) dX12_whatValue_211 rfl ?_
                        refine zr_lstore (pc' := 218) (al' := [(12, .inr (.inl (M 111 (((100 * l21) + l18).toNat)))), (10, .inr (.inl l10)), (19, .inr (.inl (M 111 (((100 * l21) + l18).toNat)))), (8, .inr (.inl (l8 + (M 111 (((100 * l21) + l18).toNat))))), (6, .inl (l6 + 1)), (22, .inr (.inl (M 111 (((100 * l21) + l18).toNat)))), (0, .inr (.inr 102)), (1, .inl l1), (2, .inl l2), (4, .inl l4), (7, .inl l7), (14, .inr (.inl l14)), (16, .inr (.inl l16)), (18, .inl l18), (21, .inl l21)]) dX12_whatValue_216 rfl (by decide) rfl ?_
                        refine zr_iinc (pc' := 221) (al' := [(21, .inl (l21 + 1)), (12, .inr (.inl (M 111 (((100 * l21) + l18).toNat)))), (10, .inr (.inl l10)), (19, .inr (.inl (M 111 (((100 * l21) + l18).toNat)))), (8, .inr (.inl (l8 + (M 111 (((100 * l21) + l18).toNat))))), (6, .inl (l6 + 1)), (22, .inr (.inl (M 111 (((100 * l21) + l18).toNat)))), (0, .inr (.inr 102)), (1, .inl l1), (2, .inl l2), (4, .inl l4), (7, .inl l7), (14, .inr (.inl l14)), (16, .inr (.inl l16)), (18, .inl l18)]) dX12_whatValue_218 rfl rfl (by decide) rfl ?_
                        refine zr_goto (pc' := 69) dX12_whatValue_221 rfl ?_
                        obtain ⟨n', hn, h⟩ := h
                        exact zn_al ((ih n' hn).2 _ _ _ _ _ _ _ _ _ _ _ _ _ _ h) ⟨rfl, rfl, rfl, rfl, rfl, rfl, rfl, rfl, rfl, rfl, rfl, rfl, rfl, rfl, trivial⟩
                  · have h := h.2.2 hc
                    refine zr_lload (pc' := 185) dX12_whatValue_183 rfl rfl ?_
                    refine zr_goto (pc' := 190) dX12_whatValue_185 rfl ?_
                    refine zr_lstore (pc' := 192) (al' := [(10, .inr (.inl (M 111 (((100 * l21) + l18).toNat)))), (19, .inr (.inl (M 111 (((100 * l21) + l18).toNat)))), (8, .inr (.inl (l8 + (M 111 (((100 * l21) + l18).toNat))))), (6, .inl (l6 + 1)), (22, .inr (.inl (M 111 (((100 * l21) + l18).toNat)))), (0, .inr (.inr 102)), (1, .inl l1), (2, .inl l2), (4, .inl l4), (7, .inl l7), (12, .inr (.inl l12)), (14, .inr (.inl l14)), (16, .inr (.inl l16)), (18, .inl l18), (21, .inl l21)]) dX12_whatValue_190 rfl (by decide) rfl ?_
                    refine zr_lload (pc' := 194) dX12_whatValue_192 rfl rfl ?_
                    refine zr_ldc2 (pc' := 197) (x := -9223372036854775808) dX12_whatValue_194 rfl ci_X12_375 ?_
                    refine zn_lif_eq (tgt := 209) (pc1 := 198) (pc' := 201) dX12_whatValue_197 rfl dX12_whatValue_198 rfl rfl h.1 (zLd rfl) (fun hc => ?_) (fun hc => ?_)
                    · have h := h.2.1 hc
                      refine zr_lload (pc' := 211) dX12_whatValue_209 rfl rfl ?_
                      refine zr_goto (pc' := 216) dX12_whatValue_211 rfl ?_
                      refine zr_lstore (pc' := 218) (al' := [(12, .inr (.inl (M 111 (((100 * l21) + l18).toNat)))), (10, .inr (.inl (M 111 (((100 * l21) + l18).toNat)))), (19, .inr (.inl (M 111 (((100 * l21) + l18).toNat)))), (8, .inr (.inl (l8 + (M 111 (((100 * l21) + l18).toNat))))), (6, .inl (l6 + 1)), (22, .inr (.inl (M 111 (((100 * l21) + l18).toNat)))), (0, .inr (.inr 102)), (1, .inl l1), (2, .inl l2), (4, .inl l4), (7, .inl l7), (14, .inr (.inl l14)), (16, .inr (.inl l16)), (18, .inl l18), (21, .inl l21)]) dX12_whatValue_216 rfl (by decide) rfl ?_
                      refine zr_iinc (pc' := 221) (al' := [(21, .inl (l21 + 1)), (12, .inr (.inl (M 111 (((100 * l21) + l18).toNat)))), (10, .inr (.inl (M 111 (((100 * l21) + l18).toNat)))), (19, .inr (.inl (M 111 (((100 * l21) + l18).toNat)))), (8, .inr (.inl (l8 + (M 111 (((100 * l21) + l18).toNat))))), (6, .inl (l6 + 1)), (22, .inr (.inl (M 111 (((100 * l21) + l18).toNat)))), (0, .inr (.inr 102)), (1, .inl l1), (2, .inl l2), (4, .inl l4), (7, .inl l7), (14, .inr (.inl l14)), (16, .inr (.inl l16)), (18, .inl l18)]) dX12_whatValue_218 rfl rfl (by decide) rfl ?_
                      refine zr_goto (pc' := 69) dX12_whatValue_221 rfl ?_
                      obtain ⟨n', hn, h⟩ := h
                      exact zn_al ((ih n' hn).2 _ _ _ _ _ _ _ _ _ _ _ _ _ _ h) ⟨rfl, rfl, rfl, rfl, rfl, rfl, rfl, rfl, rfl, rfl, rfl, rfl, rfl, rfl, trivial⟩
                    · have h := h.2.2 hc
                      refine zr_lload (pc' := 203) dX12_whatValue_201 rfl rfl ?_
                      refine zr_lload (pc' := 205) dX12_whatValue_203 rfl rfl ?_
                      refine zn_lif_ge (tgt := 214) (pc1 := 206) (pc' := 209) dX12_whatValue_205 rfl dX12_whatValue_206 rfl rfl h.1.1 h.1.2 (fun hc => ?_) (fun hc => ?_)
                      · have h := h.2.1 hc
                        refine zr_lload (pc' := 216) dX12_whatValue_214 rfl rfl ?_
                        refine zr_lstore (pc' := 218) (al' := [(12, .inr (.inl l12)), (10, .inr (.inl (M 111 (((100 * l21) + l18).toNat)))), (19, .inr (.inl (M 111 (((100 * l21) + l18).toNat)))), (8, .inr (.inl (l8 + (M 111 (((100 * l21) + l18).toNat))))), (6, .inl (l6 + 1)), (22, .inr (.inl (M 111 (((100 * l21) + l18).toNat)))), (0, .inr (.inr 102)), (1, .inl l1), (2, .inl l2), (4, .inl l4), (7, .inl l7), (14, .inr (.inl l14)), (16, .inr (.inl l16)), (18, .inl l18), (21, .inl l21)]) dX12_whatValue_216 rfl (by decide) rfl ?_
                        refine zr_iinc (pc' := 221) (al' := [(21, .inl (l21 + 1)), (12, .inr (.inl l12)), (10, .inr (.inl (M 111 (((100 * l21) + l18).toNat)))), (19, .inr (.inl (M 111 (((100 * l21) + l18).toNat)))), (8, .inr (.inl (l8 + (M 111 (((100 * l21) + l18).toNat))))), (6, .inl (l6 + 1)), (22, .inr (.inl (M 111 (((100 * l21) + l18).toNat)))), (0, .inr (.inr 102)), (1, .inl l1), (2, .inl l2), (4, .inl l4), (7, .inl l7), (14, .inr (.inl l14)), (16, .inr (.inl l16)), (18, .inl l18)]) dX12_whatValue_218 rfl rfl (by decide) rfl ?_
                        refine zr_goto (pc' := 69) dX12_whatValue_221 rfl ?_
                        obtain ⟨n', hn, h⟩ := h
                        exact zn_al ((ih n' hn).2 _ _ _ _ _ _ _ _ _ _ _ _ _ _ h) ⟨rfl, rfl, rfl, rfl, rfl, rfl, rfl, rfl, rfl, rfl, rfl, rfl, rfl, rfl, trivial⟩
                      · have h := h.2.2 hc
                        refine zr_lload (pc' := 211) dX12_whatValue_209 rfl rfl ?_
                        refine zr_goto (pc' := 216) dX12_whatValue_211 rfl ?_
                        refine zr_lstore (pc' := 218) (al' := [(12, .inr (.inl (M 111 (((100 * l21) + l18).toNat)))), (10, .inr (.inl (M 111 (((100 * l21) + l18).toNat)))), (19, .inr (.inl (M 111 (((100 * l21) + l18).toNat)))), (8, .inr (.inl (l8 + (M 111 (((100 * l21) + l18).toNat))))), (6, .inl (l6 + 1)), (22, .inr (.inl (M 111 (((100 * l21) + l18).toNat)))), (0, .inr (.inr 102)), (1, .inl l1), (2, .inl l2), (4, .inl l4), (7, .inl l7), (14, .inr (.inl l14)), (16, .inr (.inl l16)), (18, .inl l18), (21, .inl l21)]) dX12_whatValue_216 rfl (by decide) rfl ?_
                        refine zr_iinc (pc' := 221) (al' := [(21, .inl (l21 + 1)), (12, .inr (.inl (M 111 (((100 * l21) + l18).toNat)))), (10, .inr (.inl (M 111 (((100 * l21) + l18).toNat)))), (19, .inr (.inl (M 111 (((100 * l21) + l18).toNat)))), (8, .inr (.inl (l8 + (M 111 (((100 * l21) + l18).toNat))))), (6, .inl (l6 + 1)), (22, .inr (.inl (M 111 (((100 * l21) + l18).toNat)))), (0, .inr (.inr 102)), (1, .inl l1), (2, .inl l2), (4, .inl l4), (7, .inl l7), (14, .inr (.inl l14)), (16, .inr (.inl l16)), (18, .inl l18)]) dX12_whatValue_218 rfl rfl (by decide) rfl ?_
                        refine zr_goto (pc' := 69) dX12_whatValue_221 rfl ?_
                        obtain ⟨n', hn, h⟩ := h
                        exact zn_al ((ih n' hn).2 _ _ _ _ _ _ _ _ _ _ _ _ _ _ h) ⟨rfl, rfl, rfl, rfl, rfl, rfl, rfl, rfl, rfl, rfl, rfl, rfl, rfl, rfl, trivial⟩
              · have h := h.2.2 hc
                refine zr_lload (pc' := 151) dX12_whatValue_149 rfl rfl ?_
                refine zr_lload (pc' := 153) dX12_whatValue_151 rfl rfl ?_
                refine zn_lif_le (tgt := 162) (pc1 := 154) (pc' := 157) dX12_whatValue_153 rfl dX12_whatValue_154 rfl rfl h.1.1 h.1.2 (fun hc => ?_) (fun hc => ?_)
                · have h := h.2.1 hc
                  refine zr_lload (pc' := 164) dX12_whatValue_162 rfl rfl ?_
                  refine zr_lstore (pc' := 166) (al' := [(19, .inr (.inl l19)), (8, .inr (.inl (l8 + (M 111 (((100 * l21) + l18).toNat))))), (6, .inl (l6 + 1)), (22, .inr (.inl (M 111 (((100 * l21) + l18).toNat)))), (0, .inr (.inr 102)), (1, .inl l1), (2, .inl l2), (4, .inl l4), (7, .inl l7), (10, .inr (.inl l10)), (12, .inr (.inl l12)), (14, .inr (.inl l14)), (16, .inr (.inl l16)), (18, .inl l18), (21, .inl l21)]) dX12_whatValue_164 rfl (by decide) rfl ?_
                  refine zr_lload (pc' := 168) dX12_whatValue_166 rfl rfl ?_
                  refine zr_ldc2 (pc' := 171) (x := -9223372036854775808) dX12_whatValue_168 rfl ci_X12_375 ?_
                  refine zn_lif_eq (tgt := 183) (pc1 := 172) (pc' := 175) dX12_whatValue_171 rfl dX12_whatValue_172 rfl rfl h.1 (zLd rfl) (fun hc => ?_) (fun hc => ?_)
                  · have h := h.2.1 hc
                    refine zr_lload (pc' := 185) dX12_whatValue_183 rfl rfl ?_
                    refine zr_goto (pc' := 190) dX12_whatValue_185 rfl ?_
                    refine zr_lstore (pc' := 192) (al' := [(10, .inr (.inl (M 111 (((100 * l21) + l18).toNat)))), (19, .inr (.inl l19)), (8, .inr (.inl (l8 + (M 111 (((100 * l21) + l18).toNat))))), (6, .inl (l6 + 1)), (22, .inr (.inl (M 111 (((100 * l21) + l18).toNat)))), (0, .inr (.inr 102)), (1, .inl l1), (2, .inl l2), (4, .inl l4), (7, .inl l7), (12, .inr (.inl l12)), (14, .inr (.inl l14)), (16, .inr (.inl l16)), (18, .inl l18), (21, .inl l21)]) dX12_whatValue_190 rfl (by decide) rfl ?_
                    refine zr_lload (pc' := 194) dX12_whatValue_192 rfl rfl ?_
                    refine zr_ldc2 (pc' := 197) (x := -9223372036854775808) dX12_whatValue_194 rfl ci_X12_375 ?_
                    refine zn_lif_eq (tgt := 209) (pc1 := 198) (pc' := 201) dX12_whatValue_197 rfl dX12_whatValue_198 rfl rfl h.1 (zLd rfl) (fun hc => ?_) (fun hc => ?_)
                    · have h := h.2.1 hc
                      refine zr_lload (pc' := 211) dX12_whatValue_209 rfl rfl ?_
                      refine zr_goto (pc' := 216) dX12_whatValue_211 rfl ?_
                      refine zr_lstore (pc' := 218) (al' := [(12, .inr (.inl (M 111 (((100 * l21) + l18).toNat)))), (10, .inr (.inl (M 111 (((100 * l21) + l18).toNat)))), (19, .inr (.inl l19)), (8, .inr (.inl (l8 + (M 111 (((100 * l21) + l18).toNat))))), (6, .inl (l6 + 1)), (22, .inr (.inl (M 111 (((100 * l21) + l18).toNat)))), (0, .inr (.inr 102)), (1, .inl l1), (2, .inl l2), (4, .inl l4), (7, .inl l7), (14, .inr (.inl l14)), (16, .inr (.inl l16)), (18, .inl l18), (21, .inl l21)]) dX12_whatValue_216 rfl (by decide) rfl ?_
                      refine zr_iinc (pc' := 221) (al' := [(21, .inl (l21 + 1)), (12, .inr (.inl (M 111 (((100 * l21) + l18).toNat)))), (10, .inr (.inl (M 111 (((100 * l21) + l18).toNat)))), (19, .inr (.inl l19)), (8, .inr (.inl (l8 + (M 111 (((100 * l21) + l18).toNat))))), (6, .inl (l6 + 1)), (22, .inr (.inl (M 111 (((100 * l21) + l18).toNat)))), (0, .inr (.inr 102)), (1, .inl l1), (2, .inl l2), (4, .inl l4), (7, .inl l7), (14, .inr (.inl l14)), (16, .inr (.inl l16)), (18, .inl l18)]) dX12_whatValue_218 rfl rfl (by decide) rfl ?_
                      refine zr_goto (pc' := 69) dX12_whatValue_221 rfl ?_
                      obtain ⟨n', hn, h⟩ := h
                      exact zn_al ((ih n' hn).2 _ _ _ _ _ _ _ _ _ _ _ _ _ _ h) ⟨rfl, rfl, rfl, rfl, rfl, rfl, rfl, rfl, rfl, rfl, rfl, rfl, rfl, rfl, trivial⟩
                    · have h := h.2.2 hc
                      refine zr_lload (pc' := 203) dX12_whatValue_201 rfl rfl ?_
                      refine zr_lload (pc' := 205) dX12_whatValue_203 rfl rfl ?_
                      refine zn_lif_ge (tgt := 214) (pc1 := 206) (pc' := 209) dX12_whatValue_205 rfl dX12_whatValue_206 rfl rfl h.1.1 h.1.2 (fun hc => ?_) (fun hc => ?_)
                      · have h := h.2.1 hc
                        refine zr_lload (pc' := 216) dX12_whatValue_214 rfl rfl ?_
                        refine zr_lstore (pc' := 218) (al' := [(12, .inr (.inl l12)), (10, .inr (.inl (M 111 (((100 * l21) + l18).toNat)))), (19, .inr (.inl l19)), (8, .inr (.inl (l8 + (M 111 (((100 * l21) + l18).toNat))))), (6, .inl (l6 + 1)), (22, .inr (.inl (M 111 (((100 * l21) + l18).toNat)))), (0, .inr (.inr 102)), (1, .inl l1), (2, .inl l2), (4, .inl l4), (7, .inl l7), (14, .inr (.inl l14)), (16, .inr (.inl l16)), (18, .inl l18), (21, .inl l21)]) dX12_whatValue_216 rfl (by decide) rfl ?_
                        refine zr_iinc (pc' := 221) (al' := [(21, .inl (l21 + 1)), (12, .inr (.inl l12)), (10, .inr (.inl (M 111 (((100 * l21) + l18).toNat)))), (19, .inr (.inl l19)), (8, .inr (.inl (l8 + (M 111 (((100 * l21) + l18).toNat))))), (6, .inl (l6 + 1)), (22, .inr (.inl (M 111 (((100 * l21) + l18).toNat)))), (0, .inr (.inr 102)), (1, .inl l1), (2, .inl l2), (4, .inl l4), (7, .inl l7), (14, .inr (.inl l14)), (16, .inr (.inl l16)), (18, .inl l18)]) dX12_whatValue_218 rfl rfl (by decide) rfl ?_
                        refine zr_goto (pc' := 69) dX12_whatValue_221 rfl ?_
                        obtain ⟨n', hn, h⟩ := h
                        exact zn_al ((ih n' hn).2 _ _ _ _ _ _ _ _ _ _ _ _ _ _ h) ⟨rfl, rfl, rfl, rfl, rfl, rfl, rfl, rfl, rfl, rfl, rfl, rfl, rfl, rfl, trivial⟩
                      · have h := h.2.2 hc
                        refine zr_lload (pc' := 211) dX12_whatValue_209 rfl rfl ?_
                        refine zr_goto (pc' := 216) dX12_whatValue_211 rfl ?_
                        refine zr_lstore (pc' := 218) (al' := [(12, .inr (.inl (M 111 (((100 * l21) + l18).toNat)))), (10, .inr (.inl (M 111 (((100 * l21) + l18).toNat)))), (19, .inr (.inl l19)), (8, .inr (.inl (l8 + (M 111 (((100 * l21) + l18).toNat))))), (6, .inl (l6 + 1)), (22, .inr (.inl (M 111 (((100 * l21) + l18).toNat)))), (0, .inr (.inr 102)), (1, .inl l1), (2, .inl l2), (4, .inl l4), (7, .inl l7), (14, .inr (.inl l14)), (16, .inr (.inl l16)), (18, .inl l18), (21, .inl l21)]) dX12_whatValue_216 rfl (by decide) rfl ?_
                        refine zr_iinc (pc' := 221) (al' := [(21, .inl (l21 + 1)), (12, .inr (.inl (M 111 (((100 * l21) + l18).toNat)))), (10, .inr (.inl (M 111 (((100 * l21) + l18).toNat)))), (19, .inr (.inl l19)), (8, .inr (.inl (l8 + (M 111 (((100 * l21) + l18).toNat))))), (6, .inl (l6 + 1)), (22, .inr (.inl (M 111 (((100 * l21) + l18).toNat)))), (0, .inr (.inr 102)), (1, .inl l1), (2, .inl l2), (4, .inl l4), (7, .inl l7), (14, .inr (.inl l14)), (16, .inr (.inl l16)), (18, .inl l18)]) dX12_whatValue_218 rfl rfl (by decide) rfl ?_
                        refine zr_goto (pc' := 69) dX12_whatValue_221 rfl ?_
                        obtain ⟨n', hn, h⟩ := h
                        exact zn_al ((ih n' hn).2 _ _ _ _ _ _ _ _ _ _ _ _ _ _ h) ⟨rfl, rfl, rfl, rfl, rfl, rfl, rfl, rfl, rfl, rfl, rfl, rfl, rfl, rfl, trivial⟩
                  · have h := h.2.2 hc
                    refine zr_lload (pc' := 177) dX12_whatValue_175 rfl rfl ?_
                    refine zr_lload (pc' := 179) dX12_whatValue_177 rfl rfl ?_
                    refine zn_lif_le (tgt := 188) (pc1 := 180) (pc' := 183) dX12_whatValue_179 rfl dX12_whatValue_180 rfl rfl h.1.1 h.1.2 (fun hc => ?_) (fun hc => ?_)
                    · have h := h.2.1 hc
                      refine zr_lload (pc' := 190) dX12_whatValue_188 rfl rfl ?_
                      refine zr_lstore (pc' := 192) (al' := [(10, .inr (.inl l10)), (19, .inr (.inl l19)), (8, .inr (.inl (l8 + (M 111 (((100 * l21) + l18).toNat))))), (6, .inl (l6 + 1)), (22, .inr (.inl (M 111 (((100 * l21) + l18).toNat)))), (0, .inr (.inr 102)), (1, .inl l1), (2, .inl l2), (4, .inl l4), (7, .inl l7), (12, .inr (.inl l12)), (14, .inr (.inl l14)), (16, .inr (.inl l16)), (18, .inl l18), (21, .inl l21)]) dX12_whatValue_190 rfl (by decide) rfl ?_
                      refine zr_lload (pc' := 194) dX12_whatValue_192 rfl rfl ?_
                      refine zr_ldc2 (pc' := 197) (x := -9223372036854775808) dX12_whatValue_194 rfl ci_X12_375 ?_
                      refine zn_lif_eq (tgt := 209) (pc1 := 198) (pc' := 201) dX12_whatValue_197 rfl dX12_whatValue_198 rfl rfl h.1 (zLd rfl) (fun hc => ?_) (fun hc => ?_)
                      · have h := h.2.1 hc
                        refine zr_lload (pc' := 211) dX12_whatValue_209 rfl rfl ?_
                        refine zr_goto (pc' := 216) dX12_whatValue_211 rfl ?_
                        refine zr_lstore (pc' := 218) (al' := [(12, .inr (.inl (M 111 (((100 * l21) + l18).toNat)))), (10, .inr (.inl l10)), (19, .inr (.inl l19)), (8, .inr (.inl (l8 + (M 111 (((100 * l21) + l18).toNat))))), (6, .inl (l6 + 1)), (22, .inr (.inl (M 111 (((100 * l21) + l18).toNat)))), (0, .inr (.inr 102)), (1, .inl l1), (2, .inl l2), (4, .inl l4), (7, .inl l7), (14, .inr (.inl l14)), (16, .inr (.inl l16)), (18, .inl l18), (21, .inl l21)]) dX12_whatValue_216 rfl (by decide) rfl ?_
                        refine zr_iinc (pc' := 221) (al' := [(21, .inl (l21 + 1)), (12, .inr (.inl (M 111 (((100 * l21) + l18).toNat)))), (10, .inr (.inl l10)), (19, .inr (.inl l19)), (8, .inr (.inl (l8 + (M 111 (((100 * l21) + l18).toNat))))), (6, .inl (l6 + 1)), (22, .inr (.inl (M 111 (((100 * l21) + l18).toNat)))), (0, .inr (.inr 102)), (1, .inl l1), (2, .inl l2), (4, .inl l4), (7, .inl l7), (14, .inr (.inl l14)), (16, .inr (.inl l16)), (18, .inl l18)]) dX12_whatValue_218 rfl rfl (by decide) rfl ?_
                        refine zr_goto (pc' := 69) dX12_whatValue_221 rfl ?_
                        obtain ⟨n', hn, h⟩ := h
                        exact zn_al ((ih n' hn).2 _ _ _ _ _ _ _ _ _ _ _ _ _ _ h) ⟨rfl, rfl, rfl, rfl, rfl, rfl, rfl, rfl, rfl, rfl, rfl, rfl, rfl, rfl, trivial⟩
                      · have h := h.2.2 hc
                        refine zr_lload (pc' := 203) dX12_whatValue_201 rfl rfl ?_
                        refine zr_lload (pc' := 205) dX12_whatValue_203 rfl rfl ?_
                        refine zn_lif_ge (tgt := 214) (pc1 := 206) (pc' := 209) dX12_whatValue_205 rfl dX12_whatValue_206 rfl rfl h.1.1 h.1.2 (fun hc => ?_) (fun hc => ?_)
                        · have h := h.2.1 hc
                          refine zr_lload (pc' := 216) dX12_whatValue_214 rfl rfl ?_
                          refine zr_lstore (pc' := 218) (al' := [(12, .inr (.inl l12)), (10, .inr (.inl l10)), (19, .inr (.inl l19)), (8, .inr (.inl (l8 + (M 111 (((100 * l21) + l18).toNat))))), (6, .inl (l6 + 1)), (22, .inr (.inl (M 111 (((100 * l21) + l18).toNat)))), (0, .inr (.inr 102)), (1, .inl l1), (2, .inl l2), (4, .inl l4), (7, .inl l7), (14, .inr (.inl l14)), (16, .inr (.inl l16)), (18, .inl l18), (21, .inl l21)]) dX12_whatValue_216 rfl (by decide) rfl ?_
                          refine zr_iinc (pc' := 221) (al' := [(21, .inl (l21 + 1)), (12, .inr (.inl l12)), (10, .inr (.inl l10)), (19, .inr (.inl l19)), (8, .inr (.inl (l8 + (M 111 (((100 * l21) + l18).toNat))))), (6, .inl (l6 + 1)), (22, .inr (.inl (M 111 (((100 * l21) + l18).toNat)))), (0, .inr (.inr 102)), (1, .inl l1), (2, .inl l2), (4, .inl l4), (7, .inl l7), (14, .inr (.inl l14)), (16, .inr (.inl l16)), (18, .inl l18)]) dX12_whatValue_218 rfl rfl (by decide) rfl ?_
                          refine zr_goto (pc' := 69) dX12_whatValue_221 rfl ?_
                          obtain ⟨n', hn, h⟩ := h
                          exact zn_al ((ih n' hn).2 _ _ _ _ _ _ _ _ _ _ _ _ _ _ h) ⟨rfl, rfl, rfl, rfl, rfl, rfl, rfl, rfl, rfl, rfl, rfl, rfl, rfl, rfl, trivial⟩
                        · have h := h.2.2 hc
                          refine zr_lload (pc' := 211) dX12_whatValue_209 rfl rfl ?_
                          refine zr_goto (pc' := 216) dX12_whatValue_211 rfl ?_
                          refine zr_lstore (pc' := 218) (al' := [(12, .inr (.inl (M 111 (((100 * l21) + l18).toNat)))), (10, .inr (.inl l10)), (19, .inr (.inl l19)), (8, .inr (.inl (l8 + (M 111 (((100 * l21) + l18).toNat))))), (6, .inl (l6 + 1)), (22, .inr (.inl (M 111 (((100 * l21) + l18).toNat)))), (0, .inr (.inr 102)), (1, .inl l1), (2, .inl l2), (4, .inl l4), (7, .inl l7), (14, .inr (.inl l14)), (16, .inr (.inl l16)), (18, .inl l18), (21, .inl l21)]) dX12_whatValue_216 rfl (by decide) rfl ?_
                          refine zr_iinc (pc' := 221) (al' := [(21, .inl (l21 + 1)), (12, .inr (.inl (M 111 (((100 * l21) + l18).toNat)))), (10, .inr (.inl l10)), (19, .inr (.inl l19)), (8, .inr (.inl (l8 + (M 111 (((100 * l21) + l18).toNat))))), (6, .inl (l6 + 1)), (22, .inr (.inl (M 111 (((100 * l21) + l18).toNat)))), (0, .inr (.inr 102)), (1, .inl l1), (2, .inl l2), (4, .inl l4), (7, .inl l7), (14, .inr (.inl l14)), (16, .inr (.inl l16)), (18, .inl l18)]) dX12_whatValue_218 rfl rfl (by decide) rfl ?_
                          refine zr_goto (pc' := 69) dX12_whatValue_221 rfl ?_
                          obtain ⟨n', hn, h⟩ := h
                          exact zn_al ((ih n' hn).2 _ _ _ _ _ _ _ _ _ _ _ _ _ _ h) ⟨rfl, rfl, rfl, rfl, rfl, rfl, rfl, rfl, rfl, rfl, rfl, rfl, rfl, rfl, trivial⟩
                    · have h := h.2.2 hc
                      refine zr_lload (pc' := 185) dX12_whatValue_183 rfl rfl ?_
                      refine zr_goto (pc' := 190) dX12_whatValue_185 rfl ?_
                      refine zr_lstore (pc' := 192) (al' := [(10, .inr (.inl (M 111 (((100 * l21) + l18).toNat)))), (19, .inr (.inl l19)), (8, .inr (.inl (l8 + (M 111 (((100 * l21) + l18).toNat))))), (6, .inl (l6 + 1)), (22, .inr (.inl (M 111 (((100 * l21) + l18).toNat)))), (0, .inr (.inr 102)), (1, .inl l1), (2, .inl l2), (4, .inl l4), (7, .inl l7), (12, .inr (.inl l12)), (14, .inr (.inl l14)), (16, .inr (.inl l16)), (18, .inl l18), (21, .inl l21)]) dX12_whatValue_190 rfl (by decide) rfl ?_
                      refine zr_lload (pc' := 194) dX12_whatValue_192 rfl rfl ?_
                      refine zr_ldc2 (pc' := 197) (x := -9223372036854775808) dX12_whatValue_194 rfl ci_X12_375 ?_
                      refine zn_lif_eq (tgt := 209) (pc1 := 198) (pc' := 201) dX12_whatValue_197 rfl dX12_whatValue_198 rfl rfl h.1 (zLd rfl) (fun hc => ?_) (fun hc => ?_)
                      · have h := h.2.1 hc
                        refine zr_lload (pc' := 211) dX12_whatValue_209 rfl rfl ?_
                        refine zr_goto (pc' := 216) dX12_whatValue_211 rfl ?_
                        refine zr_lstore (pc' := 218) (al' := [(12, .inr (.inl (M 111 (((100 * l21) + l18).toNat)))), (10, .inr (.inl (M 111 (((100 * l21) + l18).toNat)))), (19, .inr (.inl l19)), (8, .inr (.inl (l8 + (M 111 (((100 * l21) + l18).toNat))))), (6, .inl (l6 + 1)), (22, .inr (.inl (M 111 (((100 * l21) + l18).toNat)))), (0, .inr (.inr 102)), (1, .inl l1), (2, .inl l2), (4, .inl l4), (7, .inl l7), (14, .inr (.inl l14)), (16, .inr (.inl l16)), (18, .inl l18), (21, .inl l21)]) dX12_whatValue_216 rfl (by decide) rfl ?_
                        refine zr_iinc (pc' := 221) (al' := [(21, .inl (l21 + 1)), (12, .inr (.inl (M 111 (((100 * l21) + l18).toNat)))), (10, .inr (.inl (M 111 (((100 * l21) + l18).toNat)))), (19, .inr (.inl l19)), (8, .inr (.inl (l8 + (M 111 (((100 * l21) + l18).toNat))))), (6, .inl (l6 + 1)), (22, .inr (.inl (M 111 (((100 * l21) + l18).toNat)))), (0, .inr (.inr 102)), (1, .inl l1), (2, .inl l2), (4, .inl l4), (7, .inl l7), (14, .inr (.inl l14)), (16, .inr (.inl l16)), (18, .inl l18)]) dX12_whatValue_218 rfl rfl (by decide) rfl ?_
                        refine zr_goto (pc' := 69) dX12_whatValue_221 rfl ?_
                        obtain ⟨n', hn, h⟩ := h
                        exact zn_al ((ih n' hn).2 _ _ _ _ _ _ _ _ _ _ _ _ _ _ h) ⟨rfl, rfl, rfl, rfl, rfl, rfl, rfl, rfl, rfl, rfl, rfl, rfl, rfl, rfl, trivial⟩
                      · have h := h.2.2 hc
                        refine zr_lload (pc' := 203) dX12_whatValue_201 rfl rfl ?_
                        refine zr_lload (pc' := 205) dX12_whatValue_203 rfl rfl ?_
                        refine zn_lif_ge (tgt := 214) (pc1 := 206) (pc' := 209) dX12_whatValue_205 rfl dX12_whatValue_206 rfl rfl h.1.1 h.1.2 (fun hc => ?_) (fun hc => ?_)
                        · have h := h.2.1 hc
                          refine zr_lload (pc' := 216) dX12_whatValue_214 rfl rfl ?_
                          refine zr_lstore (pc' := 218) (al' := [(12, .inr (.inl l12)), (10, .inr (.inl (M 111 (((100 * l21) + l18).toNat)))), (19, .inr (.inl l19)), (8, .inr (.inl (l8 + (M 111 (((100 * l21) + l18).toNat))))), (6, .inl (l6 + 1)), (22, .inr (.inl (M 111 (((100 * l21) + l18).toNat)))), (0, .inr (.inr 102)), (1, .inl l1), (2, .inl l2), (4, .inl l4), (7, .inl l7), (14, .inr (.inl l14)), (16, .inr (.inl l16)), (18, .inl l18), (21, .inl l21)]) dX12_whatValue_216 rfl (by decide) rfl ?_
                          refine zr_iinc (pc' := 221) (al' := [(21, .inl (l21 + 1)), (12, .inr (.inl l12)), (10, .inr (.inl (M 111 (((100 * l21) + l18).toNat)))), (19, .inr (.inl l19)), (8, .inr (.inl (l8 + (M 111 (((100 * l21) + l18).toNat))))), (6, .inl (l6 + 1)), (22, .inr (.inl (M 111 (((100 * l21) + l18).toNat)))), (0, .inr (.inr 102)), (1, .inl l1), (2, .inl l2), (4, .inl l4), (7, .inl l7), (14, .inr (.inl l14)), (16, .inr (.inl l16)), (18, .inl l18)]) dX12_whatValue_218 rfl rfl (by decide) rfl ?_
                          refine zr_goto (pc' := 69) dX12_whatValue_221 rfl ?_
                          obtain ⟨n', hn, h⟩ := h
                          exact zn_al ((ih n' hn).2 _ _ _ _ _ _ _ _ _ _ _ _ _ _ h) ⟨rfl, rfl, rfl, rfl, rfl, rfl, rfl, rfl, rfl, rfl, rfl, rfl, rfl, rfl, trivial⟩
                        · have h := h.2.2 hc
                          refine zr_lload (pc' := 211) dX12_whatValue_209 rfl rfl ?_
                          refine zr_goto (pc' := 216) dX12_whatValue_211 rfl ?_
                          refine zr_lstore (pc' := 218) (al' := [(12, .inr (.inl (M 111 (((100 * l21) + l18).toNat)))), (10, .inr (.inl (M 111 (((100 * l21) + l18).toNat)))), (19, .inr (.inl l19)), (8, .inr (.inl (l8 + (M 111 (((100 * l21) + l18).toNat))))), (6, .inl (l6 + 1)), (22, .inr (.inl (M 111 (((100 * l21) + l18).toNat)))), (0, .inr (.inr 102)), (1, .inl l1), (2, .inl l2), (4, .inl l4), (7, .inl l7), (14, .inr (.inl l14)), (16, .inr (.inl l16)), (18, .inl l18), (21, .inl l21)]) dX12_whatValue_216 rfl (by decide) rfl ?_
                          refine zr_iinc (pc' := 221) (al' := [(21, .inl (l21 + 1)), (12, .inr (.inl (M 111 (((100 * l21) + l18).toNat)))), (10, .inr (.inl (M 111 (((100 * l21) + l18).toNat)))), (19, .inr (.inl l19)), (8, .inr (.inl (l8 + (M 111 (((100 * l21) + l18).toNat))))), (6, .inl (l6 + 1)), (22, .inr (.inl (M 111 (((100 * l21) + l18).toNat)))), (0, .inr (.inr 102)), (1, .inl l1), (2, .inl l2), (4, .inl l4), (7, .inl l7), (14, .inr (.inl l14)), (16, .inr (.inl l16)), (18, .inl l18)]) dX12_whatValue_218 rfl rfl (by decide) rfl ?_
                          refine zr_goto (pc' := 69) dX12_whatValue_221 rfl ?_
                          obtain ⟨n', hn, h⟩ := h
                          exact zn_al ((ih n' hn).2 _ _ _ _ _ _ _ _ _ _ _ _ _ _ h) ⟨rfl, rfl, rfl, rfl, rfl, rfl, rfl, rfl, rfl, rfl, rfl, rfl, rfl, rfl, trivial⟩
                · have h := h.2.2 hc
                  refine zr_lload (pc' := 159) dX12_whatValue_157 rfl rfl ?_
                  refine zr_goto (pc' := 164) dX12_whatValue_159 rfl ?_
                  refine zr_lstore (pc' := 166) (al' := [(19, .inr (.inl (M 111 (((100 * l21) + l18).toNat)))), (8, .inr (.inl (l8 + (M 111 (((100 * l21) + l18).toNat))))), (6, .inl (l6 + 1)), (22, .inr (.inl (M 111 (((100 * l21) + l18).toNat)))), (0, .inr (.inr 102)), (1, .inl l1), (2, .inl l2), (4, .inl l4), (7, .inl l7), (10, .inr (.inl l10)), (12, .inr (.inl l12)), (14, .inr (.inl l14)), (16, .inr (.inl l16)), (18, .inl l18), (21, .inl l21)]) dX12_whatValue_164 rfl (by decide) rfl ?_
                  refine zr_lload (pc' := 168) dX12_whatValue_166 rfl rfl ?_
                  refine zr_ldc2 (pc' := 171) (x := -9223372036854775808) dX12_whatValue_168 rfl ci_X12_375 ?_
                  refine zn_lif_eq (tgt := 183) (pc1 := 172) (pc' := 175) dX12_whatValue_171 rfl dX12_whatValue_172 rfl rfl h.1 (zLd rfl) (fun hc => ?_) (fun hc => ?_)
                  · have h := h.2.1 hc
                    refine zr_lload (pc' := 185) dX12_whatValue_183 rfl rfl ?_
                    refine zr_goto (pc' := 190) dX12_whatValue_185 rfl ?_
                    refine zr_lstore (pc' := 192) (al' := [(10, .inr (.inl (M 111 (((100 * l21) + l18).toNat)))), (19, .inr (.inl (M 111 (((100 * l21) + l18).toNat)))), (8, .inr (.inl (l8 + (M 111 (((100 * l21) + l18).toNat))))), (6, .inl (l6 + 1)), (22, .inr (.inl (M 111 (((100 * l21) + l18).toNat)))), (0, .inr (.inr 102)), (1, .inl l1), (2, .inl l2), (4, .inl l4), (7, .inl l7), (12, .inr (.inl l12)), (14, .inr (.inl l14)), (16, .inr (.inl l16)), (18, .inl l18), (21, .inl l21)]) dX12_whatValue_190 rfl (by decide) rfl ?_
                    refine zr_lload (pc' := 194) dX12_whatValue_192 rfl rfl ?_
                    refine zr_ldc2 (pc' := 197) (x := -9223372036854775808) dX12_whatValue_194 rfl ci_X12_375 ?_
                    refine zn_lif_eq (tgt := 209) (pc1 := 198) (pc' := 201) dX12_whatValue_197 rfl dX12_whatValue_198 rfl rfl h.1 (zLd rfl) (fun hc => ?_) (fun hc => ?_)
                    · have h := h.2.1 hc
                      refine zr_lload (pc' := 211) dX12_whatValue_209 rfl rfl ?_
                      refine zr_goto (pc' := 216) dX12_whatValue_211 rfl ?_
                      refine zr_lstore (pc' := 218) (al' := [(12, .inr (.inl (M 111 (((100 * l21) + l18).toNat)))), (10, .inr (.inl (M 111 (((100 * l21) + l18).toNat)))), (19, .inr (.inl (M 111 (((100 * l21) + l18).toNat)))), (8, .inr (.inl (l8 + (M 111 (((100 * l21) + l18).toNat))))), (6, .inl (l6 + 1)), (22, .inr (.inl (M 111 (((100 * l21) + l18).toNat)))), (0, .inr (.inr 102)), (1, .inl l1), (2, .inl l2), (4, .inl l4), (7, .inl l7), (14, .inr (.inl l14)), (16, .inr (.inl l16)), (18, .inl l18), (21, .inl l21)]) dX12_whatValue_216 rfl (by decide) rfl ?_
                      refine zr_iinc (pc' := 221) (al' := [(21, .inl (l21 + 1)), (12, .inr (.inl (M 111 (((100 * l21) + l18).toNat)))), (10, .inr (.inl (M 111 (((100 * l21) + l18).toNat)))), (19, .inr (.inl (M 111 (((100 * l21) + l18).toNat)))), (8, .inr (.inl (l8 + (M 111 (((100 * l21) + l18).toNat))))), (6, .inl (l6 + 1)), (22, .inr (.inl (M 111 (((100 * l21) + l18).toNat)))), (0, .inr (.inr 102)), (1, .inl l1), (2, .inl l2), (4, .inl l4), (7, .inl l7), (14, .inr (.inl l14)), (16, .inr (.inl l16)), (18, .inl l18)]) dX12_whatValue_218 rfl rfl (by decide) rfl ?_
                      refine zr_goto (pc' := 69) dX12_whatValue_221 rfl ?_
                      obtain ⟨n', hn, h⟩ := h
                      exact zn_al ((ih n' hn).2 _ _ _ _ _ _ _ _ _ _ _ _ _ _ h) ⟨rfl, rfl, rfl, rfl, rfl, rfl, rfl, rfl, rfl, rfl, rfl, rfl, rfl, rfl, trivial⟩
                    · have h := h.2.2 hc
                      refine zr_lload (pc' := 203) dX12_whatValue_201 rfl rfl ?_
                      refine zr_lload (pc' := 205) dX12_whatValue_203 rfl rfl ?_
                      refine zn_lif_ge (tgt := 214) (pc1 := 206) (pc' := 209) dX12_whatValue_205 rfl dX12_whatValue_206 rfl rfl h.1.1 h.1.2 (fun hc => ?_) (fun hc => ?_)
                      · have h := h.2.1 hc
                        refine zr_lload (pc' := 216) dX12_whatValue_214 rfl rfl ?_
                        refine zr_lstore (pc' := 218) (al' := [(12, .inr (.inl l12)), (10, .inr (.inl (M 111 (((100 * l21) + l18).toNat)))), (19, .inr (.inl (M 111 (((100 * l21) + l18).toNat)))), (8, .inr (.inl (l8 + (M 111 (((100 * l21) + l18).toNat))))), (6, .inl (l6 + 1)), (22, .inr (.inl (M 111 (((100 * l21) + l18).toNat)))), (0, .inr (.inr 102)), (1, .inl l1), (2, .inl l2), (4, .inl l4), (7, .inl l7), (14, .inr (.inl l14)), (16, .inr (.inl l16)), (18, .inl l18), (21, .inl l21)]) dX12_whatValue_216 rfl (by decide) rfl ?_
                        refine zr_iinc (pc' := 221) (al' := [(21, .inl (l21 + 1)), (12, .inr (.inl l12)), (10, .inr (.inl (M 111 (((100 * l21) + l18).toNat)))), (19, .inr (.inl (M 111 (((100 * l21) + l18).toNat)))), (8, .inr (.inl (l8 + (M 111 (((100 * l21) + l18).toNat))))), (6, .inl (l6 + 1)), (22, .inr (.inl (M 111 (((100 * l21) + l18).toNat)))), (0, .inr (.inr 102)), (1, .inl l1), (2, .inl l2), (4, .inl l4), (7, .inl l7), (14, .inr (.inl l14)), (16, .inr (.inl l16)), (18, .inl l18)]) dX12_whatValue_218 rfl rfl (by decide) rfl ?_
                        refine zr_goto (pc' := 69) dX12_whatValue_221 rfl ?_
                        obtain ⟨n', hn, h⟩ := h
                        exact zn_al ((ih n' hn).2 _ _ _ _ _ _ _ _ _ _ _ _ _ _ h) ⟨rfl, rfl, rfl, rfl, rfl, rfl, rfl, rfl, rfl, rfl, rfl, rfl, rfl, rfl, trivial⟩
                      · have h := h.2.2 hc
                        refine zr_lload (pc' := 211) dX12_whatValue_209 rfl rfl ?_
                        refine zr_goto (pc' := 216) dX12_whatValue_211 rfl ?_
                        refine zr_lstore (pc' := 218) (al' := [(12, .inr (.inl (M 111 (((100 * l21) + l18).toNat)))), (10, .inr (.inl (M 111 (((100 * l21) + l18).toNat)))), (19, .inr (.inl (M 111 (((100 * l21) + l18).toNat)))), (8, .inr (.inl (l8 + (M 111 (((100 * l21) + l18).toNat))))), (6, .inl (l6 + 1)), (22, .inr (.inl (M 111 (((100 * l21) + l18).toNat)))), (0, .inr (.inr 102)), (1, .inl l1), (2, .inl l2), (4, .inl l4), (7, .inl l7), (14, .inr (.inl l14)), (16, .inr (.inl l16)), (18, .inl l18), (21, .inl l21)]) dX12_whatValue_216 rfl (by decide) rfl ?_
                        refine zr_iinc (pc' := 221) (al' := [(21, .inl (l21 + 1)), (12, .inr (.inl (M 111 (((100 * l21) + l18).toNat)))), (10, .inr (.inl (M 111 (((100 * l21) + l18).toNat)))), (19, .inr (.inl (M 111 (((100 * l21) + l18).toNat)))), (8, .inr (.inl (l8 + (M 111 (((100 * l21) + l18).toNat))))), (6, .inl (l6 + 1)), (22, .inr (.inl (M 111 (((100 * l21) + l18).toNat)))), (0, .inr (.inr 102)), (1, .inl l1), (2, .inl l2), (4, .inl l4), (7, .inl l7), (14, .inr (.inl l14)), (16, .inr (.inl l16)), (18, .inl l18)]) dX12_whatValue_218 rfl rfl (by decide) rfl ?_
                        refine zr_goto (pc' := 69) dX12_whatValue_221 rfl ?_
                        obtain ⟨n', hn, h⟩ := h
                        exact zn_al ((ih n' hn).2 _ _ _ _ _ _ _ _ _ _ _ _ _ _ h) ⟨rfl, rfl, rfl, rfl, rfl, rfl, rfl, rfl, rfl, rfl, rfl, rfl, rfl, rfl, trivial⟩
                  · have h := h.2.2 hc
                    refine zr_lload (pc' := 177) dX12_whatValue_175 rfl rfl ?_
                    refine zr_lload (pc' := 179) dX12_whatValue_177 rfl rfl ?_
                    refine zn_lif_le (tgt := 188) (pc1 := 180) (pc' := 183) dX12_whatValue_179 rfl dX12_whatValue_180 rfl rfl h.1.1 h.1.2 (fun hc => ?_) (fun hc => ?_)
                    · have h := h.2.1 hc
                      refine zr_lload (pc' := 190) dX12_whatValue_188 rfl rfl ?_
                      refine zr_lstore (pc' := 192) (al' := [(10, .inr (.inl l10)), (19, .inr (.inl (M 111 (((100 * l21) + l18).toNat)))), (8, .inr (.inl (l8 + (M 111 (((100 * l21) + l18).toNat))))), (6, .inl (l6 + 1)), (22, .inr (.inl (M 111 (((100 * l21) + l18).toNat)))), (0, .inr (.inr 102)), (1, .inl l1), (2, .inl l2), (4, .inl l4), (7, .inl l7), (12, .inr (.inl l12)), (14, .inr (.inl l14)), (16, .inr (.inl l16)), (18, .inl l18), (21, .inl l21)]) dX12_whatValue_190 rfl (by decide) rfl ?_
                      refine zr_lload (pc' := 194) dX12_whatValue_192 rfl rfl ?_
                      refine zr_ldc2 (pc' := 197) (x := -9223372036854775808) dX12_whatValue_194 rfl ci_X12_375 ?_
                      refine zn_lif_eq (tgt := 209) (pc1 := 198) (pc' := 201) dX12_whatValue_197 rfl dX12_whatValue_198 rfl rfl h.1 (zLd rfl) (fun hc => ?_) (fun hc => ?_)
                      · have h := h.2.1 hc
                        refine zr_lload (pc' := 211) dX12_whatValue_209 rfl rfl ?_
                        refine zr_goto (pc' := 216) dX12_whatValue_211 rfl ?_
                        refine zr_lstore (pc' := 218) (al' := [(12, .inr (.inl (M 111 (((100 * l21) + l18).toNat)))), (10, .inr (.inl l10)), (19, .inr (.inl (M 111 (((100 * l21) + l18).toNat)))), (8, .inr (.inl (l8 + (M 111 (((100 * l21) + l18).toNat))))), (6, .inl (l6 + 1)), (22, .inr (.inl (M 111 (((100 * l21) + l18).toNat)))), (0, .inr (.inr 102)), (1, .inl l1), (2, .inl l2), (4, .inl l4), (7, .inl l7), (14, .inr (.inl l14)), (16, .inr (.inl l16)), (18, .inl l18), (21, .inl l21)]) dX12_whatValue_216 rfl (by decide) rfl ?_
                        refine zr_iinc (pc' := 221) (al' := [(21, .inl (l21 + 1)), (12, .inr (.inl (M 111 (((100 * l21) + l18).toNat)))), (10, .inr (.inl l10)), (19, .inr (.inl (M 111 (((100 * l21) + l18).toNat)))), (8, .inr (.inl (l8 + (M 111 (((100 * l21) + l18).toNat))))), (6, .inl (l6 + 1)), (22, .inr (.inl (M 111 (((100 * l21) + l18).toNat)))), (0, .inr (.inr 102)), (1, .inl l1), (2, .inl l2), (4, .inl l4), (7, .inl l7), (14, .inr (.inl l14)), (16, .inr (.inl l16)), (18, .inl l18)]) dX12_whatValue_218 rfl rfl (by decide) rfl ?_
                        refine zr_goto (pc' := 69) dX12_whatValue_221 rfl ?_
                        obtain ⟨n', hn, h⟩ := h
                        exact zn_al ((ih n' hn).2 _ _ _ _ _ _ _ _ _ _ _ _ _ _ h) ⟨rfl, rfl, rfl, rfl, rfl, rfl, rfl, rfl, rfl, rfl, rfl, rfl, rfl, rfl, trivial⟩
                      · have h := h.2.2 hc
                        refine zr_lload (pc' := 203) dX12_whatValue_201 rfl rfl ?_
                        refine zr_lload (pc' := 205) dX12_whatValue_203 rfl rfl ?_
                        refine zn_lif_ge (tgt := 214) (pc1 := 206) (pc' := 209) dX12_whatValue_205 rfl dX12_whatValue_206 rfl rfl h.1.1 h.1.2 (fun hc => ?_) (fun hc => ?_)
                        · have h := h.2.1 hc
                          refine zr_lload (pc' := 216) dX12_whatValue_214 rfl rfl ?_
                          refine zr_lstore (pc' := 218) (al' := [(12, .inr (.inl l12)), (10, .inr (.inl l10)), (19, .inr (.inl (M 111 (((100 * l21) + l18).toNat)))), (8, .inr (.inl (l8 + (M 111 (((100 * l21) + l18).toNat))))), (6, .inl (l6 + 1)), (22, .inr (.inl (M 111 (((100 * l21) + l18).toNat)))), (0, .inr (.inr 102)), (1, .inl l1), (2, .inl l2), (4, .inl l4), (7, .inl l7), (14, .inr (.inl l14)), (16, .inr (.inl l16)), (18, .inl l18), (21, .inl l21)]) dX12_whatValue_216 rfl (by decide) rfl ?_
                          refine zr_iinc (pc' := 221) (al' := [(21, .inl (l21 + 1)), (12, .inr (.inl l12)), (10, .inr (.inl l10)), (19, .inr (.inl (M 111 (((100 * l21) + l18).toNat)))), (8, .inr (.inl (l8 + (M 111 (((100 * l21) + l18).toNat))))), (6, .inl (l6 + 1)), (22, .inr (.inl (M 111 (((100 * l21) + l18).toNat)))), (0, .inr (.inr 102)), (1, .inl l1), (2, .inl l2), (4, .inl l4), (7, .inl l7), (14, .inr (.inl l14)), (16, .inr (.inl l16)), (18, .inl l18)]) dX12_whatValue_218 rfl rfl (by decide) rfl ?_
                          refine zr_goto (pc' := 69) dX12_whatValue_221 rfl ?_
                          obtain ⟨n', hn, h⟩ := h
                          exact zn_al ((ih n' hn).2 _ _ _ _ _ _ _ _ _ _ _ _ _ _ h) ⟨rfl, rfl, rfl, rfl, rfl, rfl, rfl, rfl, rfl, rfl, rfl, rfl, rfl, rfl, trivial⟩
                        · have h := h.2.2 hc
                          refine zr_lload (pc' := 211) dX12_whatValue_209 rfl rfl ?_
                          refine zr_goto (pc' := 216) dX12_whatValue_211 rfl ?_
                          refine zr_lstore (pc' := 218) (al' := [(12, .inr (.inl (M 111 (((100 * l21) + l18).toNat)))), (10, .inr (.inl l10)), (19, .inr (.inl (M 111 (((100 * l21) + l18).toNat)))), (8, .inr (.inl (l8 + (M 111 (((100 * l21) + l18).toNat))))), (6, .inl (l6 + 1)), (22, .inr (.inl (M 111 (((100 * l21) + l18).toNat)))), (0, .inr (.inr 102)), (1, .inl l1), (2, .inl l2), (4, .inl l4), (7, .inl l7), (14, .inr (.inl l14)), (16, .inr (.inl l16)), (18, .inl l18), (21, .inl l21)]) dX12_whatValue_216 rfl (by decide) rfl ?_
                          refine zr_iinc (pc' := 221) (al' := [(21, .inl (l21 + 1)), (12, .inr (.inl (M 111 (((100 * l21) + l18).toNat)))), (10, .inr (.inl l10)), (19, .inr (.inl (M 111 (((100 * l21) + l18).toNat)))), (8, .inr (.inl (l8 + (M 111 (((100 * l21) + l18).toNat))))), (6, .inl (l6 + 1)), (22, .inr (.inl (M 111 (((100 * l21) + l18).toNat)))), (0, .inr (.inr 102)), (1, .inl l1), (2, .inl l2), (4, .inl l4), (7, .inl l7), (14, .inr (.inl l14)), (16, .inr (.inl l16)), (18, .inl l18)]) dX12_whatValue_218 rfl rfl (by decide) rfl ?_
                          refine zr_goto (pc' := 69) dX12_whatValue_221 rfl ?_
                          obtain ⟨n', hn, h⟩ := h
                          exact zn_al ((ih n' hn).2 _ _ _ _ _ _ _ _ _ _ _ _ _ _ h) ⟨rfl, rfl, rfl, rfl, rfl, rfl, rfl, rfl, rfl, rfl, rfl, rfl, rfl, rfl, trivial⟩
                    · have h := h.2.2 hc
                      refine zr_lload (pc' := 185) dX12_whatValue_183 rfl rfl ?_
                      refine zr_goto (pc' := 190) dX12_whatValue_185 rfl ?_
                      refine zr_lstore (pc' := 192) (al' := [(10, .inr (.inl (M 111 (((100 * l21) + l18).toNat)))), (19, .inr (.inl (M 111 (((100 * l21) + l18).toNat)))), (8, .inr (.inl (l8 + (M 111 (((100 * l21) + l18).toNat))))), (6, .inl (l6 + 1)), (22, .inr (.inl (M 111 (((100 * l21) + l18).toNat)))), (0, .inr (.inr 102)), (1, .inl l1), (2, .inl l2), (4, .inl l4), (7, .inl l7), (12, .inr (.inl l12)), (14, .inr (.inl l14)), (16, .inr (.inl l16)), (18, .inl l18), (21, .inl l21)]) dX12_whatValue_190 rfl (by decide) rfl ?_
                      refine zr_lload (pc' := 194) dX12_whatValue_192 rfl rfl ?_
                      refine zr_ldc2 (pc' := 197) (x := -9223372036854775808) dX12_whatValue_194 rfl ci_X12_375 ?_
                      refine zn_lif_eq (tgt := 209) (pc1 := 198) (pc' := 201) dX12_whatValue_197 rfl dX12_whatValue_198 rfl rfl h.1 (zLd rfl) (fun hc => ?_) (fun hc => ?_)
                      · have h := h.2.1 hc
                        refine zr_lload (pc' := 211) dX12_whatValue_209 rfl rfl ?_
                        refine zr_goto (pc' := 216) dX12_whatValue_211 rfl ?_
                        refine zr_lstore (pc' := 218) (al' := [(12, .inr (.inl (M 111 (((100 * l21) + l18).toNat)))), (10, .inr (.inl (M 111 (((100 * l21) + l18).toNat)))), (19, .inr (.inl (M 111 (((100 * l21) + l18).toNat)))), (8, .inr (.inl (l8 + (M 111 (((100 * l21) + l18).toNat))))), (6, .inl (l6 + 1)), (22, .inr (.inl (M 111 (((100 * l21) + l18).toNat)))), (0, .inr (.inr 102)), (1, .inl l1), (2, .inl l2), (4, .inl l4), (7, .inl l7), (14, .inr (.inl l14)), (16, .inr (.inl l16)), (18, .inl l18), (21, .inl l21)]) dX12_whatValue_216 rfl (by decide) rfl ?_
                        refine zr_iinc (pc' := 221) (al' := [(21, .inl (l21 + 1)), (12, .inr (.inl (M 111 (((100 * l21) + l18).toNat)))), (10, .inr (.inl (M 111 (((100 * l21) + l18).toNat)))), (19, .inr (.inl (M 111 (((100 * l21) + l18).toNat)))), (8, .inr (.inl (l8 + (M 111 (((100 * l21) + l18).toNat))))), (6, .inl (l6 + 1)), (22, .inr (.inl (M 111 (((100 * l21) + l18).toNat)))), (0, .inr (.inr 102)), (1, .inl l1), (2, .inl l2), (4, .inl l4), (7, .inl l7), (14, .inr (.inl l14)), (16, .inr (.inl l16)), (18, .inl l18)]) dX12_whatValue_218 rfl rfl (by decide) rfl ?_
                        refine zr_goto (pc' := 69) dX12_whatValue_221 rfl ?_
                        obtain ⟨n', hn, h⟩ := h
                        exact zn_al ((ih n' hn).2 _ _ _ _ _ _ _ _ _ _ _ _ _ _ h) ⟨rfl, rfl, rfl, rfl, rfl, rfl, rfl, rfl, rfl, rfl, rfl, rfl, rfl, rfl, trivial⟩
                      · have h := h.2.2 hc
                        refine zr_lload (pc' := 203) dX12_whatValue_201 rfl rfl ?_
                        refine zr_lload (pc' := 205) dX12_whatValue_203 rfl rfl ?_
                        refine zn_lif_ge (tgt := 214) (pc1 := 206) (pc' := 209) dX12_whatValue_205 rfl dX12_whatValue_206 rfl rfl h.1.1 h.1.2 (fun hc => ?_) (fun hc => ?_)
                        · have h := h.2.1 hc
                          refine zr_lload (pc' := 216) dX12_whatValue_214 rfl rfl ?_
                          refine zr_lstore (pc' := 218) (al' := [(12, .inr (.inl l12)), (10, .inr (.inl (M 111 (((100 * l21) + l18).toNat)))), (19, .inr (.inl (M 111 (((100 * l21) + l18).toNat)))), (8, .inr (.inl (l8 + (M 111 (((100 * l21) + l18).toNat))))), (6, .inl (l6 + 1)), (22, .inr (.inl (M 111 (((100 * l21) + l18).toNat)))), (0, .inr (.inr 102)), (1, .inl l1), (2, .inl l2), (4, .inl l4), (7, .inl l7), (14, .inr (.inl l14)), (16, .inr (.inl l16)), (18, .inl l18), (21, .inl l21)]) dX12_whatValue_216 rfl (by decide) rfl ?_
                          refine zr_iinc (pc' := 221) (al' := [(21, .inl (l21 + 1)), (12, .inr (.inl l12)), (10, .inr (.inl (M 111 (((100 * l21) + l18).toNat)))), (19, .inr (.inl (M 111 (((100 * l21) + l18).toNat)))), (8, .inr (.inl (l8 + (M 111 (((100 * l21) + l18).toNat))))), (6, .inl (l6 + 1)), (22, .inr (.inl (M 111 (((100 * l21) + l18).toNat)))), (0, .inr (.inr 102)), (1, .inl l1), (2, .inl l2), (4, .inl l4), (7, .inl l7), (14, .inr (.inl l14)), (16, .inr (.inl l16)), (18, .inl l18)]) dX12_whatValue_218 rfl rfl (by decide) rfl ?_
                          refine zr_goto (pc' := 69) dX12_whatValue_221 rfl ?_
                          obtain ⟨n', hn, h⟩ := h
                          exact zn_al ((ih n' hn).2 _ _ _ _ _ _ _ _ _ _ _ _ _ _ h) ⟨rfl, rfl, rfl, rfl, rfl, rfl, rfl, rfl, rfl, rfl, rfl, rfl, rfl, rfl, trivial⟩
                        · have h := h.2.2 hc
                          refine zr_lload (pc' := 211) dX12_whatValue_209 rfl rfl ?_
                          refine zr_goto (pc' := 216) dX12_whatValue_211 rfl ?_
                          refine zr_lstore (pc' := 218) (al' := [(12, .inr (.inl (M 111 (((100 * l21) + l18).toNat)))), (10, .inr (.inl (M 111 (((100 * l21) + l18).toNat)))), (19, .inr (.inl (M 111 (((100 * l21) + l18).toNat)))), (8, .inr (.inl (l8 + (M 111 (((100 * l21) + l18).toNat))))), (6, .inl (l6 + 1)), (22, .inr (.inl (M 111 (((100 * l21) + l18).toNat)))), (0, .inr (.inr 102)), (1, .inl l1), (2, .inl l2), (4, .inl l4), (7, .inl l7), (14, .inr (.inl l14)), (16, .inr (.inl l16)), (18, .inl l18), (21, .inl l21)]) dX12_whatValue_216 rfl (by decide) rfl ?_
                          refine zr_iinc (pc' := 221) (al' := [(21, .inl (l21 + 1)), (12, .inr (.inl (M 111 (((100 * l21) + l18).toNat)))), (10, .inr (.inl (M 111 (((100 * l21) + l18).toNat)))), (19, .inr (.inl (M 111 (((100 * l21) + l18).toNat)))), (8, .inr (.inl (l8 + (M 111 (((100 * l21) + l18).toNat))))), (6, .inl (l6 + 1)), (22, .inr (.inl (M 111 (((100 * l21) + l18).toNat)))), (0, .inr (.inr 102)), (1, .inl l1), (2, .inl l2), (4, .inl l4), (7, .inl l7), (14, .inr (.inl l14)), (16, .inr (.inl l16)), (18, .inl l18)]) dX12_whatValue_218 rfl rfl (by decide) rfl ?_
                          refine zr_goto (pc' := 69) dX12_whatValue_221 rfl ?_
                          obtain ⟨n', hn, h⟩ := h
                          exact zn_al ((ih n' hn).2 _ _ _ _ _ _ _ _ _ _ _ _ _ _ h) ⟨rfl, rfl, rfl, rfl, rfl, rfl, rfl, rfl, rfl, rfl, rfl, rfl, rfl, rfl, trivial⟩
            · have h := h.2.2 hc
              refine zr_iinc (pc' := 111) (al' := [(7, .inl (l7 + 1)), (0, .inr (.inr 102)), (1, .inl l1), (2, .inl l2), (4, .inl l4), (6, .inl l6), (8, .inr (.inl l8)), (10, .inr (.inl l10)), (12, .inr (.inl l12)), (14, .inr (.inl l14)), (16, .inr (.inl l16)), (18, .inl l18), (19, .inr (.inl l19)), (21, .inl l21)]) dX12_whatValue_108 rfl rfl (by decide) rfl ?_
              refine zr_goto (pc' := 218) dX12_whatValue_111 rfl ?_
              refine zr_iinc (pc' := 221) (al' := [(21, .inl (l21 + 1)), (7, .inl (l7 + 1)), (0, .inr (.inr 102)), (1, .inl l1), (2, .inl l2), (4, .inl l4), (6, .inl l6), (8, .inr (.inl l8)), (10, .inr (.inl l10)), (12, .inr (.inl l12)), (14, .inr (.inl l14)), (16, .inr (.inl l16)), (18, .inl l18), (19, .inr (.inl l19))]) dX12_whatValue_218 rfl rfl (by decide) rfl ?_
              refine zr_goto (pc' := 69) dX12_whatValue_221 rfl ?_
              obtain ⟨n', hn, h⟩ := h
              exact zn_al ((ih n' hn).2 _ _ _ _ _ _ _ _ _ _ _ _ _ _ h) ⟨rfl, rfl, rfl, rfl, rfl, rfl, rfl, rfl, rfl, rfl, rfl, rfl, rfl, rfl, trivial⟩
          · have h := h.2.2 hc
            refine zr_goto (pc' := 218) dX12_whatValue_89 rfl ?_
            refine zr_iinc (pc' := 221) (al' := [(21, .inl (l21 + 1)), (0, .inr (.inr 102)), (1, .inl l1), (2, .inl l2), (4, .inl l4), (6, .inl l6), (7, .inl l7), (8, .inr (.inl l8)), (10, .inr (.inl l10)), (12, .inr (.inl l12)), (14, .inr (.inl l14)), (16, .inr (.inl l16)), (18, .inl l18), (19, .inr (.inl l19))]) dX12_whatValue_218 rfl rfl (by decide) rfl ?_
            refine zr_goto (pc' := 69) dX12_whatValue_221 rfl ?_
            obtain ⟨n', hn, h⟩ := h
            exact zn_al ((ih n' hn).2 _ _ _ _ _ _ _ _ _ _ _ _ _ _ h) ⟨rfl, rfl, rfl, rfl, rfl, rfl, rfl, rfl, rfl, rfl, rfl, rfl, rfl, rfl, trivial⟩
  refine zP_of (by decide +kernel) rfl (Nat.le_of_ble_eq_true rfl) ?_
  show zA E zNN (0, 0) mX12_whatValue 0 [(0, .inr (.inr 102)), (1, .inl l1), (2, .inl l2), (3, .inl l3), (4, .inl l4)] [] M (zQ Q)
  refine zr_iload (pc' := 2) dX12_whatValue_0 rfl rfl ?_
  refine zr_iload_n (pc' := 3) (i := 3) dX12_whatValue_2 rfl rfl rfl ?_
  refine zr_isub (pc' := 4) dX12_whatValue_3 rfl ?_
  refine zr_iconst (pc' := 5) dX12_whatValue_4 rfl ?_
  refine zr_iadd (pc' := 6) dX12_whatValue_5 rfl ?_
  refine zr_if_ge (tgt := 13) (pc' := 9) dX12_whatValue_6 rfl rfl h.1 (fun hc => ?_) (fun hc => ?_)
  · have h := h.2.1 hc
    refine zr_iload (pc' := 15) dX12_whatValue_13 rfl rfl ?_
    refine zr_iload_n (pc' := 16) (i := 3) dX12_whatValue_15 rfl rfl rfl ?_
    refine zr_isub (pc' := 17) dX12_whatValue_16 rfl ?_
    refine zr_iconst (pc' := 18) dX12_whatValue_17 rfl ?_
    refine zr_iadd (pc' := 19) dX12_whatValue_18 rfl ?_
    refine zr_istore (pc' := 21) (al' := [(5, .inl ((l4 - l3) + 1)), (0, .inr (.inr 102)), (1, .inl l1), (2, .inl l2), (3, .inl l3), (4, .inl l4)]) dX12_whatValue_19 rfl (by decide) rfl ?_
    refine zr_iconst (pc' := 22) dX12_whatValue_21 rfl ?_
    refine zr_istore (pc' := 24) (al' := [(6, .inl 0), (5, .inl ((l4 - l3) + 1)), (0, .inr (.inr 102)), (1, .inl l1), (2, .inl l2), (3, .inl l3), (4, .inl l4)]) dX12_whatValue_22 rfl (by decide) rfl ?_
    refine zr_iconst (pc' := 25) dX12_whatValue_24 rfl ?_
    refine zr_istore (pc' := 27) (al' := [(7, .inl 0), (6, .inl 0), (5, .inl ((l4 - l3) + 1)), (0, .inr (.inr 102)), (1, .inl l1), (2, .inl l2), (3, .inl l3), (4, .inl l4)]) dX12_whatValue_25 rfl (by decide) rfl ?_
    refine zr_lconst (pc' := 28) (x := 0) dX12_whatValue_27 rfl rfl ?_
    refine zr_lstore (pc' := 30) (al' := [(8, .inr (.inl 0)), (7, .inl 0), (6, .inl 0), (5, .inl ((l4 - l3) + 1)), (0, .inr (.inr 102)), (1, .inl l1), (2, .inl l2), (3, .inl l3), (4, .inl l4)]) dX12_whatValue_28 rfl (by decide) rfl ?_
    refine zr_ldc2 (pc' := 33) (x := -9223372036854775808) dX12_whatValue_30 rfl ci_X12_375 ?_
    refine zr_lstore (pc' := 35) (al' := [(10, .inr (.inl (-9223372036854775808))), (8, .inr (.inl 0)), (7, .inl 0), (6, .inl 0), (5, .inl ((l4 - l3) + 1)), (0, .inr (.inr 102)), (1, .inl l1), (2, .inl l2), (3, .inl l3), (4, .inl l4)]) dX12_whatValue_33 rfl (by decide) rfl ?_
    refine zr_ldc2 (pc' := 38) (x := -9223372036854775808) dX12_whatValue_35 rfl ci_X12_375 ?_
    refine zr_lstore (pc' := 40) (al' := [(12, .inr (.inl (-9223372036854775808))), (10, .inr (.inl (-9223372036854775808))), (8, .inr (.inl 0)), (7, .inl 0), (6, .inl 0), (5, .inl ((l4 - l3) + 1)), (0, .inr (.inr 102)), (1, .inl l1), (2, .inl l2), (3, .inl l3), (4, .inl l4)]) dX12_whatValue_38 rfl (by decide) rfl ?_
    refine zr_ldc2 (pc' := 43) (x := -9223372036854775808) dX12_whatValue_40 rfl ci_X12_375 ?_
    refine zr_lstore (pc' := 45) (al' := [(14, .inr (.inl (-9223372036854775808))), (12, .inr (.inl (-9223372036854775808))), (10, .inr (.inl (-9223372036854775808))), (8, .inr (.inl 0)), (7, .inl 0), (6, .inl 0), (5, .inl ((l4 - l3) + 1)), (0, .inr (.inr 102)), (1, .inl l1), (2, .inl l2), (3, .inl l3), (4, .inl l4)]) dX12_whatValue_43 rfl (by decide) rfl ?_
    refine zr_ldc2 (pc' := 48) (x := -9223372036854775808) dX12_whatValue_45 rfl ci_X12_375 ?_
    refine zr_lstore (pc' := 50) (al' := [(16, .inr (.inl (-9223372036854775808))), (14, .inr (.inl (-9223372036854775808))), (12, .inr (.inl (-9223372036854775808))), (10, .inr (.inl (-9223372036854775808))), (8, .inr (.inl 0)), (7, .inl 0), (6, .inl 0), (5, .inl ((l4 - l3) + 1)), (0, .inr (.inr 102)), (1, .inl l1), (2, .inl l2), (3, .inl l3), (4, .inl l4)]) dX12_whatValue_48 rfl (by decide) rfl ?_
    refine zr_iload (pc' := 52) dX12_whatValue_50 rfl rfl ?_
    refine zr_istore (pc' := 54) (al' := [(18, .inl ((l4 - l3) + 1)), (16, .inr (.inl (-9223372036854775808))), (14, .inr (.inl (-9223372036854775808))), (12, .inr (.inl (-9223372036854775808))), (10, .inr (.inl (-9223372036854775808))), (8, .inr (.inl 0)), (7, .inl 0), (6, .inl 0), (5, .inl ((l4 - l3) + 1)), (0, .inr (.inr 102)), (1, .inl l1), (2, .inl l2), (3, .inl l3), (4, .inl l4)]) dX12_whatValue_52 rfl (by decide) rfl ?_
    obtain ⟨n', h⟩ := h
    exact zn_al ((key n').1 _ _ _ _ _ _ _ _ _ _ _ _ h) ⟨rfl, rfl, rfl, rfl, rfl, rfl, rfl, rfl, rfl, rfl, rfl, rfl, trivial⟩
  · have h := h.2.2 hc
    refine zr_iconst (pc' := 10) dX12_whatValue_9 rfl ?_
    refine zr_goto (pc' := 19) dX12_whatValue_10 rfl ?_
    refine zr_istore (pc' := 21) (al' := [(5, .inl 0), (0, .inr (.inr 102)), (1, .inl l1), (2, .inl l2), (3, .inl l3), (4, .inl l4)]) dX12_whatValue_19 rfl (by decide) rfl ?_
    refine zr_iconst (pc' := 22) dX12_whatValue_21 rfl ?_
    refine zr_istore (pc' := 24) (al' := [(6, .inl 0), (5, .inl 0), (0, .inr (.inr 102)), (1, .inl l1), (2, .inl l2), (3, .inl l3), (4, .inl l4)]) dX12_whatValue_22 rfl (by decide) rfl ?_
    refine zr_iconst (pc' := 25) dX12_whatValue_24 rfl ?_
    refine zr_istore (pc' := 27) (al' := [(7, .inl 0), (6, .inl 0), (5, .inl 0), (0, .inr (.inr 102)), (1, .inl l1), (2, .inl l2), (3, .inl l3), (4, .inl l4)]) dX12_whatValue_25 rfl (by decide) rfl ?_
    refine zr_lconst (pc' := 28) (x := 0) dX12_whatValue_27 rfl rfl ?_
    refine zr_lstore (pc' := 30) (al' := [(8, .inr (.inl 0)), (7, .inl 0), (6, .inl 0), (5, .inl 0), (0, .inr (.inr 102)), (1, .inl l1), (2, .inl l2), (3, .inl l3), (4, .inl l4)]) dX12_whatValue_28 rfl (by decide) rfl ?_
    refine zr_ldc2 (pc' := 33) (x := -9223372036854775808) dX12_whatValue_30 rfl ci_X12_375 ?_
    refine zr_lstore (pc' := 35) (al' := [(10, .inr (.inl (-9223372036854775808))), (8, .inr (.inl 0)), (7, .inl 0), (6, .inl 0), (5, .inl 0), (0, .inr (.inr 102)), (1, .inl l1), (2, .inl l2), (3, .inl l3), (4, .inl l4)]) dX12_whatValue_33 rfl (by decide) rfl ?_
    refine zr_ldc2 (pc' := 38) (x := -9223372036854775808) dX12_whatValue_35 rfl ci_X12_375 ?_
    refine zr_lstore (pc' := 40) (al' := [(12, .inr (.inl (-9223372036854775808))), (10, .inr (.inl (-9223372036854775808))), (8, .inr (.inl 0)), (7, .inl 0), (6, .inl 0), (5, .inl 0), (0, .inr (.inr 102)), (1, .inl l1), (2, .inl l2), (3, .inl l3), (4, .inl l4)]) dX12_whatValue_38 rfl (by decide) rfl ?_
    refine zr_ldc2 (pc' := 43) (x := -9223372036854775808) dX12_whatValue_40 rfl ci_X12_375 ?_
    refine zr_lstore (pc' := 45) (al' := [(14, .inr (.inl (-9223372036854775808))), (12, .inr (.inl (-9223372036854775808))), (10, .inr (.inl (-9223372036854775808))), (8, .inr (.inl 0)), (7, .inl 0), (6, .inl 0), (5, .inl 0), (0, .inr (.inr 102)), (1, .inl l1), (2, .inl l2), (3, .inl l3), (4, .inl l4)]) dX12_whatValue_43 rfl (by decide) rfl ?_
    refine zr_ldc2 (pc' := 48) (x := -9223372036854775808) dX12_whatValue_45 rfl ci_X12_375 ?_
    refine zr_lstore (pc' := 50) (al' := [(16, .inr (.inl (-9223372036854775808))), (14, .inr (.inl (-9223372036854775808))), (12, .inr (.inl (-9223372036854775808))), (10, .inr (.inl (-9223372036854775808))), (8, .inr (.inl 0)), (7, .inl 0), (6, .inl 0), (5, .inl 0), (0, .inr (.inr 102)), (1, .inl l1), (2, .inl l2), (3, .inl l3), (4, .inl l4)]) dX12_whatValue_48 rfl (by decide) rfl ?_
    refine zr_iload (pc' := 52) dX12_whatValue_50 rfl rfl ?_
    refine zr_istore (pc' := 54) (al' := [(18, .inl 0), (16, .inr (.inl (-9223372036854775808))), (14, .inr (.inl (-9223372036854775808))), (12, .inr (.inl (-9223372036854775808))), (10, .inr (.inl (-9223372036854775808))), (8, .inr (.inl 0)), (7, .inl 0), (6, .inl 0), (5, .inl 0), (0, .inr (.inr 102)), (1, .inl l1), (2, .inl l2), (3, .inl l3), (4, .inl l4)]) dX12_whatValue_52 rfl (by decide) rfl ?_
    obtain ⟨n', h⟩ := h
    exact zn_al ((key n').1 _ _ _ _ _ _ _ _ _ _ _ _ h) ⟨rfl, rfl, rfl, rfl, rfl, rfl, rfl, rfl, rfl, rfl, rfl, rfl, trivial⟩
set_option maxRecDepth 20000 in
theorem vcX12_big {E : zE} {M : zM} {Q : Int → zM → Prop} (l0 : Int)
    (h : ((zL l0) ∧ ((0 ≤ l0 → Q l0 M) ∧ (l0 < 0 → Q (-l0) M))))
    : zP E mX12_big [.inr (.inl l0)] M Q := by
  refine zP_of (by decide +kernel) rfl (Nat.le_of_ble_eq_true rfl) ?_
  show zA E zNN (0, 0) mX12_big 0 [(0, .inr (.inl l0))] [] M (zQ Q)
  refine zr_lload_n (pc' := 1) (i := 0) dX12_big_0 rfl rfl rfl ?_
  refine zr_lconst (pc' := 2) (x := 0) dX12_big_1 rfl rfl ?_
  refine zn_lif_ge (tgt := 11) (pc1 := 3) (pc' := 6) dX12_big_2 rfl dX12_big_3 rfl rfl h.1 (zLd rfl) (fun hc => ?_) (fun hc => ?_)
  · have h := h.2.1 hc
    refine zr_lload_n (pc' := 12) (i := 0) dX12_big_11 rfl rfl rfl ?_
    exact zr_lreturn dX12_big_12 rfl (Nat.le_refl _) (Nat.le_refl _) (And.intro rfl h)
  · have h := h.2.2 hc
    refine zr_lload_n (pc' := 7) (i := 0) dX12_big_6 rfl rfl rfl ?_
    refine zr_lneg (pc' := 8) dX12_big_7 rfl ?_
    refine zr_goto (pc' := 12) dX12_big_8 rfl ?_
    exact zr_lreturn dX12_big_12 rfl (Nat.le_refl _) (Nat.le_refl _) (And.intro rfl h)
set_option maxRecDepth 20000 in
theorem vcX12_bounded {E : zE} {M : zM} {Q : Int → zM → Prop} (l0 : Int)
    (h : (zP E mX12_big [.inr (.inl l0)] M (fun r1 M2 => ((zL r1) ∧ ((r1 ≤ 1000000000000 → Q l0 M2) ∧ (1000000000000 < r1 → Q (-9223372036854775808) M2))))))
    : zP E mX12_bounded [.inr (.inl l0)] M Q := by
  refine zP_of (by decide +kernel) rfl (Nat.le_of_ble_eq_true rfl) ?_
  show zA E zNN (0, 0) mX12_bounded 0 [(0, .inr (.inl l0))] [] M (zQ Q)
  refine zr_lload_n (pc' := 1) (i := 0) dX12_bounded_0 rfl rfl rfl ?_
  refine zn_callS (pc' := 4) (args := [.inr (.inl l0)]) (st := []) (st' := fun r1 => [.inr (.inl r1)]) dX12_bounded_1 rfl cs_X12_377 ⟨rfl, rfl, by decide, by decide⟩ rfl rfl rfl (Nat.le_of_ble_eq_true rfl) (fun _ => rfl) h ?_
  intro r1 M2 h
  refine zr_ldc2 (pc' := 7) (x := 1000000000000) dX12_bounded_4 rfl ci_X12_381 ?_
  refine zn_lif_le (tgt := 17) (pc1 := 8) (pc' := 11) dX12_bounded_7 rfl dX12_bounded_8 rfl rfl h.1 (zLd rfl) (fun hc => ?_) (fun hc => ?_)
  · have h := h.2.1 hc
    refine zr_lload_n (pc' := 18) (i := 0) dX12_bounded_17 rfl rfl rfl ?_
    exact zr_lreturn dX12_bounded_18 rfl (Nat.le_refl _) (Nat.le_refl _) (And.intro rfl h)
  · have h := h.2.2 hc
    refine zr_ldc2 (pc' := 14) (x := -9223372036854775808) dX12_bounded_11 rfl ci_X12_375 ?_
    refine zr_goto (pc' := 18) dX12_bounded_14 rfl ?_
    exact zr_lreturn dX12_bounded_18 rfl (Nat.le_refl _) (Nat.le_refl _) (And.intro rfl h)
set_option maxRecDepth 20000 in
theorem vcX12_truth {E : zE} {M : zM} {Q : Int → zM → Prop} (l0 : Int)
    (h : ((zR l0) ∧ ((l0 = 0 → Q 0 M) ∧ (¬ l0 = 0 → Q 1 M))))
    : zP E mX12_truth [.inl l0] M Q := by
  refine zP_of (by decide +kernel) rfl (Nat.le_of_ble_eq_true rfl) ?_
  show zA E zNN (0, 0) mX12_truth 0 [(0, .inl l0)] [] M (zQ Q)
  refine zr_iload_n (pc' := 1) (i := 0) dX12_truth_0 rfl rfl rfl ?_
  refine zr_if_eq (tgt := 8) (pc' := 4) dX12_truth_1 rfl rfl h.1 (fun hc => ?_) (fun hc => ?_)
  · have h := h.2.1 hc
    refine zr_lconst (pc' := 9) (x := 0) dX12_truth_8 rfl rfl ?_
    exact zr_lreturn dX12_truth_9 rfl (Nat.le_refl _) (Nat.le_refl _) (And.intro rfl h)
  · have h := h.2.2 hc
    refine zr_lconst (pc' := 5) (x := 1) dX12_truth_4 rfl rfl ?_
    refine zr_goto (pc' := 9) dX12_truth_5 rfl ?_
    exact zr_lreturn dX12_truth_9 rfl (Nat.le_refl _) (Nat.le_refl _) (And.intro rfl h)
set_option maxRecDepth 20000 in
theorem vcX12_made {E : zE} {M : zM} {Q : Int → zM → Prop} (l0 l1 l3 : Int)
    (h : (zR l0 ∧ ((l0 < 1 ∨ 13 < l0) → ((zL l1) ∧ ((¬ l1 = 0 → (zP E mX12_truth [.inl 1] M (fun r1 M2 => Q r1 M2))) ∧ (l1 = 0 → ((zL l3) ∧ ((l3 = 0 → (zP E mX12_truth [.inl 0] M (fun r3 M4 => Q r3 M4))) ∧ (¬ l3 = 0 → (zP E mX12_truth [.inl 1] M (fun r5 M6 => Q r5 M6))))))))) ∧ (l0 = 1 → ((zL l1 ∧ zL l3) ∧ ((l3 ≤ l1 → (zP E mX12_truth [.inl 0] M (fun r7 M8 => Q r7 M8))) ∧ (l1 < l3 → (zP E mX12_truth [.inl 1] M (fun r9 M10 => Q r9 M10)))))) ∧ (l0 = 2 → ((zL l1 ∧ zL l3) ∧ ((l3 < l1 → (zP E mX12_truth [.inl 0] M (fun r11 M12 => Q r11 M12))) ∧ (l1 ≤ l3 → (zP E mX12_truth [.inl 1] M (fun r13 M14 => Q r13 M14)))))) ∧ (l0 = 3 → ((zL l1 ∧ zL l3) ∧ ((¬ l1 = l3 → (zP E mX12_truth [.inl 0] M (fun r15 M16 => Q r15 M16))) ∧ (l1 = l3 → (zP E mX12_truth [.inl 1] M (fun r17 M18 => Q r17 M18)))))) ∧ (l0 = 4 → ((zL l1 ∧ zL l3) ∧ ((l1 = l3 → (zP E mX12_truth [.inl 0] M (fun r19 M20 => Q r19 M20))) ∧ (¬ l1 = l3 → (zP E mX12_truth [.inl 1] M (fun r21 M22 => Q r21 M22)))))) ∧ (l0 = 5 → ((zL l1 ∧ zL l3) ∧ ((l1 < l3 → (zP E mX12_truth [.inl 0] M (fun r23 M24 => Q r23 M24))) ∧ (l3 ≤ l1 → (zP E mX12_truth [.inl 1] M (fun r25 M26 => Q r25 M26)))))) ∧ (l0 = 6 → ((zL l1 ∧ zL l3) ∧ ((l1 ≤ l3 → (zP E mX12_truth [.inl 0] M (fun r27 M28 => Q r27 M28))) ∧ (l3 < l1 → (zP E mX12_truth [.inl 1] M (fun r29 M30 => Q r29 M30)))))) ∧ (l0 = 7 → (zP E mX12_bounded [.inr (.inl (l1 + l3))] M (fun r31 M32 => Q r31 M32))) ∧ (l0 = 8 → (zP E mX12_bounded [.inr (.inl (l1 - l3))] M (fun r33 M34 => Q r33 M34))) ∧ (l0 = 9 → ((zL l1) ∧ ((l1 = 0 → Q (l1 * l3) M) ∧ (¬ l1 = 0 → (zP E mX12_big [.inr (.inl l3)] M (fun r35 M36 => (zP E mX12_big [.inr (.inl l1)] M36 (fun r37 M38 => (zL r37 ∧ r37 ≠ 0) ∧ ((zL r35 ∧ zL (Int.tdiv 1000000000000 r37)) ∧ ((r35 ≤ (Int.tdiv 1000000000000 r37) → Q (l1 * l3) M38) ∧ ((Int.tdiv 1000000000000 r37) < r35 → Q (-9223372036854775808) M38))))))))))) ∧ (l0 = 10 → ((zL l3) ∧ ((¬ l3 = 0 → (zL l1 ∧ zL l3 ∧ l3 ≠ 0) ∧ Q (Int.tdiv l1 l3) M) ∧ (l3 = 0 → Q (-9223372036854775808) M)))) ∧ (l0 = 11 → ((zL l1) ∧ ((¬ l1 = 0 → (zP E mX12_truth [.inl 1] M (fun r39 M40 => Q r39 M40))) ∧ (l1 = 0 → ((zL l3) ∧ ((l3 = 0 → (zP E mX12_truth [.inl 0] M (fun r41 M42 => Q r41 M42))) ∧ (¬ l3 = 0 → (zP E mX12_truth [.inl 1] M (fun r43 M44 => Q r43 M44))))))))) ∧ (l0 = 12 → ((zL l1) ∧ ((¬ l1 = 0 → (zP E mX12_truth [.inl 1] M (fun r45 M46 => Q r45 M46))) ∧ (l1 = 0 → ((zL l3) ∧ ((l3 = 0 → (zP E mX12_truth [.inl 0] M (fun r47 M48 => Q r47 M48))) ∧ (¬ l3 = 0 → (zP E mX12_truth [.inl 1] M (fun r49 M50 => Q r49 M50))))))))) ∧ (l0 = 13 → ((zL l1) ∧ ((l1 = 0 → (zP E mX12_truth [.inl 0] M (fun r51 M52 => Q r51 M52))) ∧ (¬ l1 = 0 → ((zL l3) ∧ ((l3 = 0 → (zP E mX12_truth [.inl 0] M (fun r53 M54 => Q r53 M54))) ∧ (¬ l3 = 0 → (zP E mX12_truth [.inl 1] M (fun r55 M56 => Q r55 M56)))))))))))
    : zP E mX12_made [.inl l0, .inr (.inl l1), .inr (.inl l3)] M Q := by
  refine zP_of (by decide +kernel) rfl (Nat.le_of_ble_eq_true rfl) ?_
  show zA E zNN (0, 0) mX12_made 0 [(0, .inl l0), (1, .inr (.inl l1)), (3, .inr (.inl l3))] [] M (zQ Q)
  refine zr_iload_n (pc' := 1) (i := 0) dX12_made_0 rfl rfl rfl ?_
  by_cases hsw : l0 < 1 ∨ 13 < l0
  · refine zr_tableOut (tgt := 241) dX12_made_1 h.1 hsw rfl ?_
    have h := h.2.1 hsw
    refine zr_lload_n (pc' := 242) (i := 1) dX12_made_241 rfl rfl rfl ?_
    refine zr_lconst (pc' := 243) (x := 0) dX12_made_242 rfl rfl ?_
    refine zn_lif_ne (tgt := 253) (pc1 := 244) (pc' := 247) dX12_made_243 rfl dX12_made_244 rfl rfl h.1 (zLd rfl) (fun hc => ?_) (fun hc => ?_)
    · have h := h.2.1 hc
      refine zr_iconst (pc' := 254) dX12_made_253 rfl ?_
      refine zr_goto (pc' := 258) dX12_made_254 rfl ?_
      refine zn_callS (pc' := 261) (args := [.inl 1]) (st := []) (st' := fun r1 => [.inr (.inl r1)]) dX12_made_258 rfl cs_X12_383 ⟨rfl, rfl, by decide, by decide⟩ rfl rfl rfl (Nat.le_of_ble_eq_true rfl) (fun _ => rfl) h ?_
      intro r1 M2 h
      exact zr_lreturn dX12_made_261 rfl (Nat.le_refl _) (Nat.le_refl _) (And.intro rfl h)
    · have h := h.2.2 hc
      refine zr_lload_n (pc' := 248) (i := 3) dX12_made_247 rfl rfl rfl ?_
      refine zr_lconst (pc' := 249) (x := 0) dX12_made_248 rfl rfl ?_
      refine zn_lif_eq (tgt := 257) (pc1 := 250) (pc' := 253) dX12_made_249 rfl dX12_made_250 rfl rfl h.1 (zLd rfl) (fun hc => ?_) (fun hc => ?_)
      · have h := h.2.1 hc
        refine zr_iconst (pc' := 258) dX12_made_257 rfl ?_
        refine zn_callS (pc' := 261) (args := [.inl 0]) (st := []) (st' := fun r3 => [.inr (.inl r3)]) dX12_made_258 rfl cs_X12_383 ⟨rfl, rfl, by decide, by decide⟩ rfl rfl rfl (Nat.le_of_ble_eq_true rfl) (fun _ => rfl) h ?_
        intro r3 M4 h
        exact zr_lreturn dX12_made_261 rfl (Nat.le_refl _) (Nat.le_refl _) (And.intro rfl h)
      · have h := h.2.2 hc
        refine zr_iconst (pc' := 254) dX12_made_253 rfl ?_
        refine zr_goto (pc' := 258) dX12_made_254 rfl ?_
        refine zn_callS (pc' := 261) (args := [.inl 1]) (st := []) (st' := fun r5 => [.inr (.inl r5)]) dX12_made_258 rfl cs_X12_383 ⟨rfl, rfl, by decide, by decide⟩ rfl rfl rfl (Nat.le_of_ble_eq_true rfl) (fun _ => rfl) h ?_
        intro r5 M6 h
        exact zr_lreturn dX12_made_261 rfl (Nat.le_refl _) (Nat.le_refl _) (And.intro rfl h)
  · have hsx : l0 = 1 ∨ l0 = 2 ∨ l0 = 3 ∨ l0 = 4 ∨ l0 = 5 ∨ l0 = 6 ∨ l0 = 7 ∨ l0 = 8 ∨ l0 = 9 ∨ l0 = 10 ∨ l0 = 11 ∨ l0 = 12 ∨ l0 = 13 := by omega
    rcases hsx with hsx | hsx | hsx | hsx | hsx | hsx | hsx | hsx | hsx | hsx | hsx | hsx | hsx
    · refine zr_tableIn (off := 67) (tgt := 68) dX12_made_1 h.1 (by omega) (by omega) (by rw [hsx]; rfl) rfl ?_
      have h := h.2.2.1 hsx
      refine zr_lload_n (pc' := 69) (i := 1) dX12_made_68 rfl rfl rfl ?_
      refine zr_lload_n (pc' := 70) (i := 3) dX12_made_69 rfl rfl rfl ?_
      refine zn_lif_ge (tgt := 78) (pc1 := 71) (pc' := 74) dX12_made_70 rfl dX12_made_71 rfl rfl h.1.1 h.1.2 (fun hc => ?_) (fun hc => ?_)
      · have h := h.2.1 hc
        refine zr_iconst (pc' := 79) dX12_made_78 rfl ?_
        refine zn_callS (pc' := 82) (args := [.inl 0]) (st := []) (st' := fun r7 => [.inr (.inl r7)]) dX12_made_79 rfl cs_X12_383 ⟨rfl, rfl, by decide, by decide⟩ rfl rfl rfl (Nat.le_of_ble_eq_true rfl) (fun _ => rfl) h ?_
        intro r7 M8 h
        exact zr_lreturn dX12_made_82 rfl (Nat.le_refl _) (Nat.le_refl _) (And.intro rfl h)
      · have h := h.2.2 hc
        refine zr_iconst (pc' := 75) dX12_made_74 rfl ?_
        refine zr_goto (pc' := 79) dX12_made_75 rfl ?_
        refine zn_callS (pc' := 82) (args := [.inl 1]) (st := []) (st' := fun r9 => [.inr (.inl r9)]) dX12_made_79 rfl cs_X12_383 ⟨rfl, rfl, by decide, by decide⟩ rfl rfl rfl (Nat.le_of_ble_eq_true rfl) (fun _ => rfl) h ?_
        intro r9 M10 h
        exact zr_lreturn dX12_made_82 rfl (Nat.le_refl _) (Nat.le_refl _) (And.intro rfl h)
    · refine zr_tableIn (off := 82) (tgt := 83) dX12_made_1 h.1 (by omega) (by omega) (by rw [hsx]; rfl) rfl ?_
      have h := h.2.2.2.1 hsx
      refine zr_lload_n (pc' := 84) (i := 1) dX12_made_83 rfl rfl rfl ?_
      refine zr_lload_n (pc' := 85) (i := 3) dX12_made_84 rfl rfl rfl ?_
      refine zn_lif_gt (tgt := 93) (pc1 := 86) (pc' := 89) dX12_made_85 rfl dX12_made_86 rfl rfl h.1.1 h.1.2 (fun hc => ?_) (fun hc => ?_)
      · have h := h.2.1 hc
        refine zr_iconst (pc' := 94) dX12_made_93 rfl ?_
        refine zn_callS (pc' := 97) (args := [.inl 0]) (st := []) (st' := fun r11 => [.inr (.inl r11)]) dX12_made_94 rfl cs_X12_383 ⟨rfl, rfl, by decide, by decide⟩ rfl rfl rfl (Nat.le_of_ble_eq_true rfl) (fun _ => rfl) h ?_
        intro r11 M12 h
        exact zr_lreturn dX12_made_97 rfl (Nat.le_refl _) (Nat.le_refl _) (And.intro rfl h)
      · have h := h.2.2 hc
        refine zr_iconst (pc' := 90) dX12_made_89 rfl ?_
        refine zr_goto (pc' := 94) dX12_made_90 rfl ?_
        refine zn_callS (pc' := 97) (args := [.inl 1]) (st := []) (st' := fun r13 => [.inr (.inl r13)]) dX12_made_94 rfl cs_X12_383 ⟨rfl, rfl, by decide, by decide⟩ rfl rfl rfl (Nat.le_of_ble_eq_true rfl) (fun _ => rfl) h ?_
        intro r13 M14 h
        exact zr_lreturn dX12_made_97 rfl (Nat.le_refl _) (Nat.le_refl _) (And.intro rfl h)
    · refine zr_tableIn (off := 97) (tgt := 98) dX12_made_1 h.1 (by omega) (by omega) (by rw [hsx]; rfl) rfl ?_
      have h := h.2.2.2.2.1 hsx
      refine zr_lload_n (pc' := 99) (i := 1) dX12_made_98 rfl rfl rfl ?_
      refine zr_lload_n (pc' := 100) (i := 3) dX12_made_99 rfl rfl rfl ?_
      refine zn_lif_ne (tgt := 108) (pc1 := 101) (pc' := 104) dX12_made_100 rfl dX12_made_101 rfl rfl h.1.1 h.1.2 (fun hc => ?_) (fun hc => ?_)
      · have h := h.2.1 hc
        refine zr_iconst (pc' := 109) dX12_made_108 rfl ?_
        refine zn_callS (pc' := 112) (args := [.inl 0]) (st := []) (st' := fun r15 => [.inr (.inl r15)]) dX12_made_109 rfl cs_X12_383 ⟨rfl, rfl, by decide, by decide⟩ rfl rfl rfl (Nat.le_of_ble_eq_true rfl) (fun _ => rfl) h ?_
        intro r15 M16 h
        exact zr_lreturn dX12_made_112 rfl (Nat.le_refl _) (Nat.le_refl _) (And.intro rfl h)
      · have h := h.2.2 hc
        refine zr_iconst (pc' := 105) dX12_made_104 rfl ?_
        refine zr_goto (pc' := 109) dX12_made_105 rfl ?_
        refine zn_callS (pc' := 112) (args := [.inl 1]) (st := []) (st' := fun r17 => [.inr (.inl r17)]) dX12_made_109 rfl cs_X12_383 ⟨rfl, rfl, by decide, by decide⟩ rfl rfl rfl (Nat.le_of_ble_eq_true rfl) (fun _ => rfl) h ?_
        intro r17 M18 h
        exact zr_lreturn dX12_made_112 rfl (Nat.le_refl _) (Nat.le_refl _) (And.intro rfl h)
    · refine zr_tableIn (off := 112) (tgt := 113) dX12_made_1 h.1 (by omega) (by omega) (by rw [hsx]; rfl) rfl ?_
      have h := h.2.2.2.2.2.1 hsx
      refine zr_lload_n (pc' := 114) (i := 1) dX12_made_113 rfl rfl rfl ?_
      refine zr_lload_n (pc' := 115) (i := 3) dX12_made_114 rfl rfl rfl ?_
      refine zn_lif_eq (tgt := 123) (pc1 := 116) (pc' := 119) dX12_made_115 rfl dX12_made_116 rfl rfl h.1.1 h.1.2 (fun hc => ?_) (fun hc => ?_)
      · have h := h.2.1 hc
        refine zr_iconst (pc' := 124) dX12_made_123 rfl ?_
        refine zn_callS (pc' := 127) (args := [.inl 0]) (st := []) (st' := fun r19 => [.inr (.inl r19)]) dX12_made_124 rfl cs_X12_383 ⟨rfl, rfl, by decide, by decide⟩ rfl rfl rfl (Nat.le_of_ble_eq_true rfl) (fun _ => rfl) h ?_
        intro r19 M20 h
        exact zr_lreturn dX12_made_127 rfl (Nat.le_refl _) (Nat.le_refl _) (And.intro rfl h)
      · have h := h.2.2 hc
        refine zr_iconst (pc' := 120) dX12_made_119 rfl ?_
        refine zr_goto (pc' := 124) dX12_made_120 rfl ?_
        refine zn_callS (pc' := 127) (args := [.inl 1]) (st := []) (st' := fun r21 => [.inr (.inl r21)]) dX12_made_124 rfl cs_X12_383 ⟨rfl, rfl, by decide, by decide⟩ rfl rfl rfl (Nat.le_of_ble_eq_true rfl) (fun _ => rfl) h ?_
        intro r21 M22 h
        exact zr_lreturn dX12_made_127 rfl (Nat.le_refl _) (Nat.le_refl _) (And.intro rfl h)
    · refine zr_tableIn (off := 127) (tgt := 128) dX12_made_1 h.1 (by omega) (by omega) (by rw [hsx]; rfl) rfl ?_
      have h := h.2.2.2.2.2.2.1 hsx
      refine zr_lload_n (pc' := 129) (i := 1) dX12_made_128 rfl rfl rfl ?_
      refine zr_lload_n (pc' := 130) (i := 3) dX12_made_129 rfl rfl rfl ?_
      refine zn_lif_lt (tgt := 138) (pc1 := 131) (pc' := 134) dX12_made_130 rfl dX12_made_131 rfl rfl h.1.1 h.1.2 (fun hc => ?_) (fun hc => ?_)
      · have h := h.2.1 hc
        refine zr_iconst (pc' := 139) dX12_made_138 rfl ?_
        refine zn_callS (pc' := 142) (args := [.inl 0]) (st := []) (st' := fun r23 => [.inr (.inl r23)]) dX12_made_139 rfl cs_X12_383 ⟨rfl, rfl, by decide, by decide⟩ rfl rfl rfl (Nat.le_of_ble_eq_true rfl) (fun _ => rfl) h ?_
        intro r23 M24 h
        exact zr_lreturn dX12_made_142 rfl (Nat.le_refl _) (Nat.le_refl _) (And.intro rfl h)
      · have h := h.2.2 hc
        refine zr_iconst (pc' := 135) dX12_made_134 rfl ?_
        refine zr_goto (pc' := 139) dX12_made_135 rfl ?_
        refine zn_callS (pc' := 142) (args := [.inl 1]) (st := []) (st' := fun r25 => [.inr (.inl r25)]) dX12_made_139 rfl cs_X12_383 ⟨rfl, rfl, by decide, by decide⟩ rfl rfl rfl (Nat.le_of_ble_eq_true rfl) (fun _ => rfl) h ?_
        intro r25 M26 h
        exact zr_lreturn dX12_made_142 rfl (Nat.le_refl _) (Nat.le_refl _) (And.intro rfl h)
    · refine zr_tableIn (off := 142) (tgt := 143) dX12_made_1 h.1 (by omega) (by omega) (by rw [hsx]; rfl) rfl ?_
      have h := h.2.2.2.2.2.2.2.1 hsx
      refine zr_lload_n (pc' := 144) (i := 1) dX12_made_143 rfl rfl rfl ?_
      refine zr_lload_n (pc' := 145) (i := 3) dX12_made_144 rfl rfl rfl ?_
      refine zn_lif_le (tgt := 153) (pc1 := 146) (pc' := 149) dX12_made_145 rfl dX12_made_146 rfl rfl h.1.1 h.1.2 (fun hc => ?_) (fun hc => ?_)
      · have h := h.2.1 hc
        refine zr_iconst (pc' := 154) dX12_made_153 rfl ?_
        refine zn_callS (pc' := 157) (args := [.inl 0]) (st := []) (st' := fun r27 => [.inr (.inl r27)]) dX12_made_154 rfl cs_X12_383 ⟨rfl, rfl, by decide, by decide⟩ rfl rfl rfl (Nat.le_of_ble_eq_true rfl) (fun _ => rfl) h ?_
        intro r27 M28 h
        exact zr_lreturn dX12_made_157 rfl (Nat.le_refl _) (Nat.le_refl _) (And.intro rfl h)
      · have h := h.2.2 hc
        refine zr_iconst (pc' := 150) dX12_made_149 rfl ?_
        refine zr_goto (pc' := 154) dX12_made_150 rfl ?_
        refine zn_callS (pc' := 157) (args := [.inl 1]) (st := []) (st' := fun r29 => [.inr (.inl r29)]) dX12_made_154 rfl cs_X12_383 ⟨rfl, rfl, by decide, by decide⟩ rfl rfl rfl (Nat.le_of_ble_eq_true rfl) (fun _ => rfl) h ?_
        intro r29 M30 h
        exact zr_lreturn dX12_made_157 rfl (Nat.le_refl _) (Nat.le_refl _) (And.intro rfl h)
    · refine zr_tableIn (off := 157) (tgt := 158) dX12_made_1 h.1 (by omega) (by omega) (by rw [hsx]; rfl) rfl ?_
      have h := h.2.2.2.2.2.2.2.2.1 hsx
      refine zr_lload_n (pc' := 159) (i := 1) dX12_made_158 rfl rfl rfl ?_
      refine zr_lload_n (pc' := 160) (i := 3) dX12_made_159 rfl rfl rfl ?_
      refine zr_ladd (pc' := 161) dX12_made_160 rfl ?_
      refine zn_callS (pc' := 164) (args := [.inr (.inl (l1 + l3))]) (st := []) (st' := fun r31 => [.inr (.inl r31)]) dX12_made_161 rfl cs_X12_387 ⟨rfl, rfl, by decide, by decide⟩ rfl rfl rfl (Nat.le_of_ble_eq_true rfl) (fun _ => rfl) h ?_
      intro r31 M32 h
      exact zr_lreturn dX12_made_164 rfl (Nat.le_refl _) (Nat.le_refl _) (And.intro rfl h)
    · refine zr_tableIn (off := 164) (tgt := 165) dX12_made_1 h.1 (by omega) (by omega) (by rw [hsx]; rfl) rfl ?_
      have h := h.2.2.2.2.2.2.2.2.2.1 hsx
      refine zr_lload_n (pc' := 166) (i := 1) dX12_made_165 rfl rfl rfl ?_
      refine zr_lload_n (pc' := 167) (i := 3) dX12_made_166 rfl rfl rfl ?_
      refine zr_lsub (pc' := 168) dX12_made_167 rfl ?_
      refine zn_callS (pc' := 171) (args := [.inr (.inl (l1 - l3))]) (st := []) (st' := fun r33 => [.inr (.inl r33)]) dX12_made_168 rfl cs_X12_387 ⟨rfl, rfl, by decide, by decide⟩ rfl rfl rfl (Nat.le_of_ble_eq_true rfl) (fun _ => rfl) h ?_
      intro r33 M34 h
      exact zr_lreturn dX12_made_171 rfl (Nat.le_refl _) (Nat.le_refl _) (And.intro rfl h)
    · refine zr_tableIn (off := 171) (tgt := 172) dX12_made_1 h.1 (by omega) (by omega) (by rw [hsx]; rfl) rfl ?_
      have h := h.2.2.2.2.2.2.2.2.2.2.1 hsx
      refine zr_lload_n (pc' := 173) (i := 1) dX12_made_172 rfl rfl rfl ?_
      refine zr_lconst (pc' := 174) (x := 0) dX12_made_173 rfl rfl ?_
      refine zn_lif_eq (tgt := 200) (pc1 := 175) (pc' := 178) dX12_made_174 rfl dX12_made_175 rfl rfl h.1 (zLd rfl) (fun hc => ?_) (fun hc => ?_)
      · have h := h.2.1 hc
        refine zr_lload_n (pc' := 201) (i := 1) dX12_made_200 rfl rfl rfl ?_
        refine zr_lload_n (pc' := 202) (i := 3) dX12_made_201 rfl rfl rfl ?_
        refine zr_lmul (pc' := 203) dX12_made_202 rfl ?_
        exact zr_lreturn dX12_made_203 rfl (Nat.le_refl _) (Nat.le_refl _) (And.intro rfl h)
      · have h := h.2.2 hc
        refine zr_lload_n (pc' := 179) (i := 3) dX12_made_178 rfl rfl rfl ?_
        refine zn_callS (pc' := 182) (args := [.inr (.inl l3)]) (st := []) (st' := fun r35 => [.inr (.inl r35)]) dX12_made_179 rfl cs_X12_377 ⟨rfl, rfl, by decide, by decide⟩ rfl rfl rfl (Nat.le_of_ble_eq_true rfl) (fun _ => rfl) h ?_
        intro r35 M36 h
        refine zr_ldc2 (pc' := 185) (x := 1000000000000) dX12_made_182 rfl ci_X12_381 ?_
        refine zr_lload_n (pc' := 186) (i := 1) dX12_made_185 rfl rfl rfl ?_
        refine zn_callS (pc' := 189) (args := [.inr (.inl l1)]) (st := [.inr (.inl 1000000000000), .inr (.inl r35)]) (st' := fun r37 => [.inr (.inl r37), .inr (.inl 1000000000000), .inr (.inl r35)]) dX12_made_186 rfl cs_X12_377 ⟨rfl, rfl, by decide, by decide⟩ rfl rfl rfl (Nat.le_of_ble_eq_true rfl) (fun _ => rfl) h ?_
        intro r37 M38 h
        refine zr_ldiv (pc' := 190) dX12_made_189 rfl (zLd rfl) h.1.1 h.1.2 ?_
        have h := h.2
        refine zn_lif_le (tgt := 200) (pc1 := 191) (pc' := 194) dX12_made_190 rfl dX12_made_191 rfl rfl h.1.1 h.1.2 (fun hc => ?_) (fun hc => ?_)
        · have h := h.2.1 hc
          refine zr_lload_n (pc' := 201) (i := 1) dX12_made_200 rfl rfl rfl ?_
          refine zr_lload_n (pc' := 202) (i := 3) dX12_made_201 rfl rfl rfl ?_
          refine zr_lmul (pc' := 203) dX12_made_202 rfl ?_
          exact zr_lreturn dX12_made_203 rfl (Nat.le_refl _) (Nat.le_refl _) (And.intro rfl h)
        · have h := h.2.2 hc
          refine zr_ldc2 (pc' := 197) (x := -9223372036854775808) dX12_made_194 rfl ci_X12_375 ?_
          refine zr_goto (pc' := 203) dX12_made_197 rfl ?_
          exact zr_lreturn dX12_made_203 rfl (Nat.le_refl _) (Nat.le_refl _) (And.intro rfl h)
    · refine zr_tableIn (off := 203) (tgt := 204) dX12_made_1 h.1 (by omega) (by omega) (by rw [hsx]; rfl) rfl ?_
      have h := h.2.2.2.2.2.2.2.2.2.2.2.1 hsx
      refine zr_lload_n (pc' := 205) (i := 3) dX12_made_204 rfl rfl rfl ?_
      refine zr_lconst (pc' := 206) (x := 0) dX12_made_205 rfl rfl ?_
      refine zn_lif_ne (tgt := 216) (pc1 := 207) (pc' := 210) dX12_made_206 rfl dX12_made_207 rfl rfl h.1 (zLd rfl) (fun hc => ?_) (fun hc => ?_)
      · have h := h.2.1 hc
        refine zr_lload_n (pc' := 217) (i := 1) dX12_made_216 rfl rfl rfl ?_
        refine zr_lload_n (pc' := 218) (i := 3) dX12_made_217 rfl rfl rfl ?_
        refine zr_ldiv (pc' := 219) dX12_made_218 rfl h.1.1 h.1.2.1 h.1.2.2 ?_
        have h := h.2
        exact zr_lreturn dX12_made_219 rfl (Nat.le_refl _) (Nat.le_refl _) (And.intro rfl h)
      · have h := h.2.2 hc
        refine zr_ldc2 (pc' := 213) (x := -9223372036854775808) dX12_made_210 rfl ci_X12_375 ?_
        refine zr_goto (pc' := 219) dX12_made_213 rfl ?_
        exact zr_lreturn dX12_made_219 rfl (Nat.le_refl _) (Nat.le_refl _) (And.intro rfl h)
    · refine zr_tableIn (off := 240) (tgt := 241) dX12_made_1 h.1 (by omega) (by omega) (by rw [hsx]; rfl) rfl ?_
      have h := h.2.2.2.2.2.2.2.2.2.2.2.2.1 hsx
      refine zr_lload_n (pc' := 242) (i := 1) dX12_made_241 rfl rfl rfl ?_
      refine zr_lconst (pc' := 243) (x := 0) dX12_made_242 rfl rfl ?_
      refine zn_lif_ne (tgt := 253) (pc1 := 244) (pc' := 247) dX12_made_243 rfl dX12_made_244 rfl rfl h.1 (zLd rfl) (fun hc => ?_) (fun hc => ?_)
      · have h := h.2.1 hc
        refine zr_iconst (pc' := 254) dX12_made_253 rfl ?_
        refine zr_goto (pc' := 258) dX12_made_254 rfl ?_
        refine zn_callS (pc' := 261) (args := [.inl 1]) (st := []) (st' := fun r39 => [.inr (.inl r39)]) dX12_made_258 rfl cs_X12_383 ⟨rfl, rfl, by decide, by decide⟩ rfl rfl rfl (Nat.le_of_ble_eq_true rfl) (fun _ => rfl) h ?_
        intro r39 M40 h
        exact zr_lreturn dX12_made_261 rfl (Nat.le_refl _) (Nat.le_refl _) (And.intro rfl h)
      · have h := h.2.2 hc
        refine zr_lload_n (pc' := 248) (i := 3) dX12_made_247 rfl rfl rfl ?_
        refine zr_lconst (pc' := 249) (x := 0) dX12_made_248 rfl rfl ?_
        refine zn_lif_eq (tgt := 257) (pc1 := 250) (pc' := 253) dX12_made_249 rfl dX12_made_250 rfl rfl h.1 (zLd rfl) (fun hc => ?_) (fun hc => ?_)
        · have h := h.2.1 hc
          refine zr_iconst (pc' := 258) dX12_made_257 rfl ?_
          refine zn_callS (pc' := 261) (args := [.inl 0]) (st := []) (st' := fun r41 => [.inr (.inl r41)]) dX12_made_258 rfl cs_X12_383 ⟨rfl, rfl, by decide, by decide⟩ rfl rfl rfl (Nat.le_of_ble_eq_true rfl) (fun _ => rfl) h ?_
          intro r41 M42 h
          exact zr_lreturn dX12_made_261 rfl (Nat.le_refl _) (Nat.le_refl _) (And.intro rfl h)
        · have h := h.2.2 hc
          refine zr_iconst (pc' := 254) dX12_made_253 rfl ?_
          refine zr_goto (pc' := 258) dX12_made_254 rfl ?_
          refine zn_callS (pc' := 261) (args := [.inl 1]) (st := []) (st' := fun r43 => [.inr (.inl r43)]) dX12_made_258 rfl cs_X12_383 ⟨rfl, rfl, by decide, by decide⟩ rfl rfl rfl (Nat.le_of_ble_eq_true rfl) (fun _ => rfl) h ?_
          intro r43 M44 h
          exact zr_lreturn dX12_made_261 rfl (Nat.le_refl _) (Nat.le_refl _) (And.intro rfl h)
    · refine zr_tableIn (off := 240) (tgt := 241) dX12_made_1 h.1 (by omega) (by omega) (by rw [hsx]; rfl) rfl ?_
      have h := h.2.2.2.2.2.2.2.2.2.2.2.2.2.1 hsx
      refine zr_lload_n (pc' := 242) (i := 1) dX12_made_241 rfl rfl rfl ?_
      refine zr_lconst (pc' := 243) (x := 0) dX12_made_242 rfl rfl ?_
      refine zn_lif_ne (tgt := 253) (pc1 := 244) (pc' := 247) dX12_made_243 rfl dX12_made_244 rfl rfl h.1 (zLd rfl) (fun hc => ?_) (fun hc => ?_)
      · have h := h.2.1 hc
        refine zr_iconst (pc' := 254) dX12_made_253 rfl ?_
        refine zr_goto (pc' := 258) dX12_made_254 rfl ?_
        refine zn_callS (pc' := 261) (args := [.inl 1]) (st := []) (st' := fun r45 => [.inr (.inl r45)]) dX12_made_258 rfl cs_X12_383 ⟨rfl, rfl, by decide, by decide⟩ rfl rfl rfl (Nat.le_of_ble_eq_true rfl) (fun _ => rfl) h ?_
        intro r45 M46 h
        exact zr_lreturn dX12_made_261 rfl (Nat.le_refl _) (Nat.le_refl _) (And.intro rfl h)
      · have h := h.2.2 hc
        refine zr_lload_n (pc' := 248) (i := 3) dX12_made_247 rfl rfl rfl ?_
        refine zr_lconst (pc' := 249) (x := 0) dX12_made_248 rfl rfl ?_
        refine zn_lif_eq (tgt := 257) (pc1 := 250) (pc' := 253) dX12_made_249 rfl dX12_made_250 rfl rfl h.1 (zLd rfl) (fun hc => ?_) (fun hc => ?_)
        · have h := h.2.1 hc
          refine zr_iconst (pc' := 258) dX12_made_257 rfl ?_
          refine zn_callS (pc' := 261) (args := [.inl 0]) (st := []) (st' := fun r47 => [.inr (.inl r47)]) dX12_made_258 rfl cs_X12_383 ⟨rfl, rfl, by decide, by decide⟩ rfl rfl rfl (Nat.le_of_ble_eq_true rfl) (fun _ => rfl) h ?_
          intro r47 M48 h
          exact zr_lreturn dX12_made_261 rfl (Nat.le_refl _) (Nat.le_refl _) (And.intro rfl h)
        · have h := h.2.2 hc
          refine zr_iconst (pc' := 254) dX12_made_253 rfl ?_
          refine zr_goto (pc' := 258) dX12_made_254 rfl ?_
          refine zn_callS (pc' := 261) (args := [.inl 1]) (st := []) (st' := fun r49 => [.inr (.inl r49)]) dX12_made_258 rfl cs_X12_383 ⟨rfl, rfl, by decide, by decide⟩ rfl rfl rfl (Nat.le_of_ble_eq_true rfl) (fun _ => rfl) h ?_
          intro r49 M50 h
          exact zr_lreturn dX12_made_261 rfl (Nat.le_refl _) (Nat.le_refl _) (And.intro rfl h)
    · refine zr_tableIn (off := 219) (tgt := 220) dX12_made_1 h.1 (by omega) (by omega) (by rw [hsx]; rfl) rfl ?_
      have h := h.2.2.2.2.2.2.2.2.2.2.2.2.2.2 hsx
      refine zr_lload_n (pc' := 221) (i := 1) dX12_made_220 rfl rfl rfl ?_
      refine zr_lconst (pc' := 222) (x := 0) dX12_made_221 rfl rfl ?_
      refine zn_lif_eq (tgt := 236) (pc1 := 223) (pc' := 226) dX12_made_222 rfl dX12_made_223 rfl rfl h.1 (zLd rfl) (fun hc => ?_) (fun hc => ?_)
      · have h := h.2.1 hc
        refine zr_iconst (pc' := 237) dX12_made_236 rfl ?_
        refine zn_callS (pc' := 240) (args := [.inl 0]) (st := []) (st' := fun r51 => [.inr (.inl r51)]) dX12_made_237 rfl cs_X12_383 ⟨rfl, rfl, by decide, by decide⟩ rfl rfl rfl (Nat.le_of_ble_eq_true rfl) (fun _ => rfl) h ?_
        intro r51 M52 h
        exact zr_lreturn dX12_made_240 rfl (Nat.le_refl _) (Nat.le_refl _) (And.intro rfl h)
      · have h := h.2.2 hc
        refine zr_lload_n (pc' := 227) (i := 3) dX12_made_226 rfl rfl rfl ?_
        refine zr_lconst (pc' := 228) (x := 0) dX12_made_227 rfl rfl ?_
        refine zn_lif_eq (tgt := 236) (pc1 := 229) (pc' := 232) dX12_made_228 rfl dX12_made_229 rfl rfl h.1 (zLd rfl) (fun hc => ?_) (fun hc => ?_)
        · have h := h.2.1 hc
          refine zr_iconst (pc' := 237) dX12_made_236 rfl ?_
          refine zn_callS (pc' := 240) (args := [.inl 0]) (st := []) (st' := fun r53 => [.inr (.inl r53)]) dX12_made_237 rfl cs_X12_383 ⟨rfl, rfl, by decide, by decide⟩ rfl rfl rfl (Nat.le_of_ble_eq_true rfl) (fun _ => rfl) h ?_
          intro r53 M54 h
          exact zr_lreturn dX12_made_240 rfl (Nat.le_refl _) (Nat.le_refl _) (And.intro rfl h)
        · have h := h.2.2 hc
          refine zr_iconst (pc' := 233) dX12_made_232 rfl ?_
          refine zr_goto (pc' := 237) dX12_made_233 rfl ?_
          refine zn_callS (pc' := 240) (args := [.inl 1]) (st := []) (st' := fun r55 => [.inr (.inl r55)]) dX12_made_237 rfl cs_X12_383 ⟨rfl, rfl, by decide, by decide⟩ rfl rfl rfl (Nat.le_of_ble_eq_true rfl) (fun _ => rfl) h ?_
          intro r55 M56 h
          exact zr_lreturn dX12_made_240 rfl (Nat.le_refl _) (Nat.le_refl _) (And.intro rfl h)
