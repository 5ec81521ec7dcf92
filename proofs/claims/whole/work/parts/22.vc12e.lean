set_option maxRecDepth 20000 in
theorem vcX12_wind {E : zE} {M : zM} {Q : Int → zM → Prop} (l1 l2 l3 : Int)
    (h : (∀ M1, M1 = zup M 102 2 0 → (zP E mX12_isIn [.inl l1, .inl 0, .inl 123] M1 (fun r2 M3 => ((zR r2) ∧ ((r2 = 0 → Q 0 M3) ∧ (¬ r2 = 0 → (zP E mX12_isIn [.inl l2, .inl 0, .inl 7] M3 (fun r4 M5 => ((zR r4) ∧ ((r4 = 0 → Q 0 M5) ∧ (¬ r4 = 0 → (zP E mX12_isIn [.inl l3, .inl 0, .inl 7] M5 (fun r6 M7 => ((zR r6) ∧ ((¬ r6 = 0 → (0 ≤ l1 ∧ l1 < 124) ∧ (∀ M8, M8 = zup M7 163 l1.toNat l2 → (0 ≤ l1 ∧ l1 < 124) ∧ (∀ M9, M9 = zup M8 164 l1.toNat l3 → Q 1 M9))) ∧ (r6 = 0 → Q 0 M7)))))))))))))))))
    : zP E mX12_wind [.inr (.inr 102), .inl l1, .inl l2, .inl l3] M Q := by
  refine zP_of (by decide +kernel) rfl (Nat.le_of_ble_eq_true rfl) ?_
  show zA E zNN (0, 0) mX12_wind 0 [(0, .inr (.inr 102)), (1, .inl l1), (2, .inl l2), (3, .inl l3)] [] M (zQ Q)
  refine zr_aload_n (pc' := 1) (i := 0) dX12_wind_0 rfl rfl rfl ?_
  refine zr_iconst (pc' := 2) dX12_wind_1 rfl ?_
  refine zr_put (pc' := 5) dX12_wind_2 rfl ps_102 kd_102 fl_X12_208 kc_12 rfl nf_102_2 rfl trivial (fun M1 hM1 => ?_)
  have h := h M1 hM1
  refine zr_iload_n (pc' := 6) (i := 1) dX12_wind_5 rfl rfl rfl ?_
  refine zr_iconst (pc' := 7) dX12_wind_6 rfl ?_
  refine zr_bipush (pc' := 9) dX12_wind_7 rfl rfl ?_
  refine zn_callS (pc' := 12) (args := [.inl l1, .inl 0, .inl 123]) (st := []) (st' := fun r2 => [.inl r2]) dX12_wind_9 rfl cs_X12_214 ⟨rfl, rfl, by decide, by decide⟩ rfl rfl rfl (Nat.le_of_ble_eq_true rfl) (fun _ => rfl) h ?_
  intro r2 M3 h
  refine zr_if_eq (tgt := 35) (pc' := 15) dX12_wind_12 rfl rfl h.1 (fun hc => ?_) (fun hc => ?_)
  · have h := h.2.1 hc
    refine zr_iconst (pc' := 36) dX12_wind_35 rfl ?_
    exact zr_ireturn dX12_wind_36 rfl rfl (Or.inl rfl) (Nat.le_refl _) (Nat.le_refl _) (And.intro rfl h)
  · have h := h.2.2 hc
    refine zr_iload_n (pc' := 16) (i := 2) dX12_wind_15 rfl rfl rfl ?_
    refine zr_iconst (pc' := 17) dX12_wind_16 rfl ?_
    refine zr_bipush (pc' := 19) dX12_wind_17 rfl rfl ?_
    refine zn_callS (pc' := 22) (args := [.inl l2, .inl 0, .inl 7]) (st := []) (st' := fun r4 => [.inl r4]) dX12_wind_19 rfl cs_X12_214 ⟨rfl, rfl, by decide, by decide⟩ rfl rfl rfl (Nat.le_of_ble_eq_true rfl) (fun _ => rfl) h ?_
    intro r4 M5 h
    refine zr_if_eq (tgt := 35) (pc' := 25) dX12_wind_22 rfl rfl h.1 (fun hc => ?_) (fun hc => ?_)
    · have h := h.2.1 hc
      refine zr_iconst (pc' := 36) dX12_wind_35 rfl ?_
      exact zr_ireturn dX12_wind_36 rfl rfl (Or.inl rfl) (Nat.le_refl _) (Nat.le_refl _) (And.intro rfl h)
    · have h := h.2.2 hc
      refine zr_iload_n (pc' := 26) (i := 3) dX12_wind_25 rfl rfl rfl ?_
      refine zr_iconst (pc' := 27) dX12_wind_26 rfl ?_
      refine zr_bipush (pc' := 29) dX12_wind_27 rfl rfl ?_
      refine zn_callS (pc' := 32) (args := [.inl l3, .inl 0, .inl 7]) (st := []) (st' := fun r6 => [.inl r6]) dX12_wind_29 rfl cs_X12_214 ⟨rfl, rfl, by decide, by decide⟩ rfl rfl rfl (Nat.le_of_ble_eq_true rfl) (fun _ => rfl) h ?_
      intro r6 M7 h
      refine zr_if_ne (tgt := 37) (pc' := 35) dX12_wind_32 rfl rfl h.1 (fun hc => ?_) (fun hc => ?_)
      · have h := h.2.1 hc
        refine zr_aload_n (pc' := 38) (i := 0) dX12_wind_37 rfl rfl rfl ?_
        refine zr_get (pc' := 41) dX12_wind_38 rfl ps_102 kd_102 fl_X12_202 kc_12 (gv_102_105 _) ?_
        refine zr_iload_n (pc' := 42) (i := 1) dX12_wind_41 rfl rfl rfl ?_
        refine zr_iload_n (pc' := 43) (i := 2) dX12_wind_42 rfl rfl rfl ?_
        refine zr_iast (pc' := 44) dX12_wind_43 rfl ps_163 kd_163 (by decide) h.1.1 h.1.2 (fun M8 hM1 => ?_)
        have h := h.2 M8 hM1
        refine zr_aload_n (pc' := 45) (i := 0) dX12_wind_44 rfl rfl rfl ?_
        refine zr_get (pc' := 48) dX12_wind_45 rfl ps_102 kd_102 fl_X12_205 kc_12 (gv_102_106 _) ?_
        refine zr_iload_n (pc' := 49) (i := 1) dX12_wind_48 rfl rfl rfl ?_
        refine zr_iload_n (pc' := 50) (i := 3) dX12_wind_49 rfl rfl rfl ?_
        refine zr_iast (pc' := 51) dX12_wind_50 rfl ps_164 kd_164 (by decide) h.1.1 h.1.2 (fun M9 hM1 => ?_)
        have h := h.2 M9 hM1
        refine zr_iconst (pc' := 52) dX12_wind_51 rfl ?_
        exact zr_ireturn dX12_wind_52 rfl rfl (Or.inr rfl) (Nat.le_refl _) (Nat.le_refl _) (And.intro rfl h)
      · have h := h.2.2 hc
        refine zr_iconst (pc' := 36) dX12_wind_35 rfl ?_
        exact zr_ireturn dX12_wind_36 rfl rfl (Or.inl rfl) (Nat.le_refl _) (Nat.le_refl _) (And.intro rfl h)
set_option maxRecDepth 20000 in
theorem vcX12_stepX {E : zE} {M : zM} {Q : Int → zM → Prop} (l0 : Int)
    (h : ((zR l0) ∧ ((l0 = 0 → Q 1 M) ∧ (¬ l0 = 0 → ((zR l0) ∧ ((l0 = 1 → Q 1 M) ∧ (¬ l0 = 1 → ((zR l0) ∧ ((¬ l0 = 7 → ((zR l0) ∧ ((l0 = 2 → Q 0 M) ∧ (¬ l0 = 2 → ((zR l0) ∧ ((¬ l0 = 6 → Q (-1) M) ∧ (l0 = 6 → Q 0 M))))))) ∧ (l0 = 7 → Q 1 M))))))))))
    : zP E mX12_stepX [.inl l0] M Q := by
  refine zP_of (by decide +kernel) rfl (Nat.le_of_ble_eq_true rfl) ?_
  show zA E zNN (0, 0) mX12_stepX 0 [(0, .inl l0)] [] M (zQ Q)
  refine zr_iload_n (pc' := 1) (i := 0) dX12_stepX_0 rfl rfl rfl ?_
  refine zr_if_eq (tgt := 15) (pc' := 4) dX12_stepX_1 rfl rfl h.1 (fun hc => ?_) (fun hc => ?_)
  · have h := h.2.1 hc
    refine zr_iconst (pc' := 16) dX12_stepX_15 rfl ?_
    refine zr_goto (pc' := 35) dX12_stepX_16 rfl ?_
    exact zr_ireturn dX12_stepX_35 rfl rfl trivial (Nat.le_refl _) (Nat.le_refl _) (And.intro rfl h)
  · have h := h.2.2 hc
    refine zr_iload_n (pc' := 5) (i := 0) dX12_stepX_4 rfl rfl rfl ?_
    refine zr_iconst (pc' := 6) dX12_stepX_5 rfl ?_
    refine zr_icmp_eq (tgt := 15) (pc' := 9) dX12_stepX_6 rfl rfl h.1 (zRd rfl) (fun hc => ?_) (fun hc => ?_)
    · have h := h.2.1 hc
      refine zr_iconst (pc' := 16) dX12_stepX_15 rfl ?_
      refine zr_goto (pc' := 35) dX12_stepX_16 rfl ?_
      exact zr_ireturn dX12_stepX_35 rfl rfl trivial (Nat.le_refl _) (Nat.le_refl _) (And.intro rfl h)
    · have h := h.2.2 hc
      refine zr_iload_n (pc' := 10) (i := 0) dX12_stepX_9 rfl rfl rfl ?_
      refine zr_bipush (pc' := 12) dX12_stepX_10 rfl rfl ?_
      refine zr_icmp_ne (tgt := 19) (pc' := 15) dX12_stepX_12 rfl rfl h.1 (zRd rfl) (fun hc => ?_) (fun hc => ?_)
      · have h := h.2.1 hc
        refine zr_iload_n (pc' := 20) (i := 0) dX12_stepX_19 rfl rfl rfl ?_
        refine zr_iconst (pc' := 21) dX12_stepX_20 rfl ?_
        refine zr_icmp_eq (tgt := 30) (pc' := 24) dX12_stepX_21 rfl rfl h.1 (zRd rfl) (fun hc => ?_) (fun hc => ?_)
        · have h := h.2.1 hc
          refine zr_iconst (pc' := 31) dX12_stepX_30 rfl ?_
          refine zr_goto (pc' := 35) dX12_stepX_31 rfl ?_
          exact zr_ireturn dX12_stepX_35 rfl rfl trivial (Nat.le_refl _) (Nat.le_refl _) (And.intro rfl h)
        · have h := h.2.2 hc
          refine zr_iload_n (pc' := 25) (i := 0) dX12_stepX_24 rfl rfl rfl ?_
          refine zr_bipush (pc' := 27) dX12_stepX_25 rfl rfl ?_
          refine zr_icmp_ne (tgt := 34) (pc' := 30) dX12_stepX_27 rfl rfl h.1 (zRd rfl) (fun hc => ?_) (fun hc => ?_)
          · have h := h.2.1 hc
            refine zr_iconst (pc' := 35) dX12_stepX_34 rfl ?_
            exact zr_ireturn dX12_stepX_35 rfl rfl trivial (Nat.le_refl _) (Nat.le_refl _) (And.intro rfl h)
          · have h := h.2.2 hc
            refine zr_iconst (pc' := 31) dX12_stepX_30 rfl ?_
            refine zr_goto (pc' := 35) dX12_stepX_31 rfl ?_
            exact zr_ireturn dX12_stepX_35 rfl rfl trivial (Nat.le_refl _) (Nat.le_refl _) (And.intro rfl h)
      · have h := h.2.2 hc
        refine zr_iconst (pc' := 16) dX12_stepX_15 rfl ?_
        refine zr_goto (pc' := 35) dX12_stepX_16 rfl ?_
        exact zr_ireturn dX12_stepX_35 rfl rfl trivial (Nat.le_refl _) (Nat.le_refl _) (And.intro rfl h)
set_option maxRecDepth 20000 in
theorem vcX12_stepY {E : zE} {M : zM} {Q : Int → zM → Prop} (l0 : Int)
    (h : ((zR l0) ∧ ((l0 < 1 → ((zR l0) ∧ ((l0 = 0 → Q 0 M) ∧ (¬ l0 = 0 → ((zR l0) ∧ ((¬ l0 = 4 → Q (-1) M) ∧ (l0 = 4 → Q 0 M))))))) ∧ (1 ≤ l0 → ((zR l0) ∧ ((3 < l0 → ((zR l0) ∧ ((l0 = 0 → Q 0 M) ∧ (¬ l0 = 0 → ((zR l0) ∧ ((¬ l0 = 4 → Q (-1) M) ∧ (l0 = 4 → Q 0 M))))))) ∧ (l0 ≤ 3 → Q 1 M)))))))
    : zP E mX12_stepY [.inl l0] M Q := by
  refine zP_of (by decide +kernel) rfl (Nat.le_of_ble_eq_true rfl) ?_
  show zA E zNN (0, 0) mX12_stepY 0 [(0, .inl l0)] [] M (zQ Q)
  refine zr_iload_n (pc' := 1) (i := 0) dX12_stepY_0 rfl rfl rfl ?_
  refine zr_iconst (pc' := 2) dX12_stepY_1 rfl ?_
  refine zr_icmp_lt (tgt := 14) (pc' := 5) dX12_stepY_2 rfl rfl h.1 (zRd rfl) (fun hc => ?_) (fun hc => ?_)
  · have h := h.2.1 hc
    refine zr_iload_n (pc' := 15) (i := 0) dX12_stepY_14 rfl rfl rfl ?_
    refine zr_if_eq (tgt := 23) (pc' := 18) dX12_stepY_15 rfl rfl h.1 (fun hc => ?_) (fun hc => ?_)
    · have h := h.2.1 hc
      refine zr_iconst (pc' := 24) dX12_stepY_23 rfl ?_
      refine zr_goto (pc' := 28) dX12_stepY_24 rfl ?_
      exact zr_ireturn dX12_stepY_28 rfl rfl trivial (Nat.le_refl _) (Nat.le_refl _) (And.intro rfl h)
    · have h := h.2.2 hc
      refine zr_iload_n (pc' := 19) (i := 0) dX12_stepY_18 rfl rfl rfl ?_
      refine zr_iconst (pc' := 20) dX12_stepY_19 rfl ?_
      refine zr_icmp_ne (tgt := 27) (pc' := 23) dX12_stepY_20 rfl rfl h.1 (zRd rfl) (fun hc => ?_) (fun hc => ?_)
      · have h := h.2.1 hc
        refine zr_iconst (pc' := 28) dX12_stepY_27 rfl ?_
        exact zr_ireturn dX12_stepY_28 rfl rfl trivial (Nat.le_refl _) (Nat.le_refl _) (And.intro rfl h)
      · have h := h.2.2 hc
        refine zr_iconst (pc' := 24) dX12_stepY_23 rfl ?_
        refine zr_goto (pc' := 28) dX12_stepY_24 rfl ?_
        exact zr_ireturn dX12_stepY_28 rfl rfl trivial (Nat.le_refl _) (Nat.le_refl _) (And.intro rfl h)
  · have h := h.2.2 hc
    refine zr_iload_n (pc' := 6) (i := 0) dX12_stepY_5 rfl rfl rfl ?_
    refine zr_iconst (pc' := 7) dX12_stepY_6 rfl ?_
    refine zr_icmp_gt (tgt := 14) (pc' := 10) dX12_stepY_7 rfl rfl h.1 (zRd rfl) (fun hc => ?_) (fun hc => ?_)
    · have h := h.2.1 hc
      refine zr_iload_n (pc' := 15) (i := 0) dX12_stepY_14 rfl rfl rfl ?_
      refine zr_if_eq (tgt := 23) (pc' := 18) dX12_stepY_15 rfl rfl h.1 (fun hc => ?_) (fun hc => ?_)
      · have h := h.2.1 hc
        refine zr_iconst (pc' := 24) dX12_stepY_23 rfl ?_
        refine zr_goto (pc' := 28) dX12_stepY_24 rfl ?_
        exact zr_ireturn dX12_stepY_28 rfl rfl trivial (Nat.le_refl _) (Nat.le_refl _) (And.intro rfl h)
      · have h := h.2.2 hc
        refine zr_iload_n (pc' := 19) (i := 0) dX12_stepY_18 rfl rfl rfl ?_
        refine zr_iconst (pc' := 20) dX12_stepY_19 rfl ?_
        refine zr_icmp_ne (tgt := 27) (pc' := 23) dX12_stepY_20 rfl rfl h.1 (zRd rfl) (fun hc => ?_) (fun hc => ?_)
        · have h := h.2.1 hc
          refine zr_iconst (pc' := 28) dX12_stepY_27 rfl ?_
          exact zr_ireturn dX12_stepY_28 rfl rfl trivial (Nat.le_refl _) (Nat.le_refl _) (And.intro rfl h)
        · have h := h.2.2 hc
          refine zr_iconst (pc' := 24) dX12_stepY_23 rfl ?_
          refine zr_goto (pc' := 28) dX12_stepY_24 rfl ?_
          exact zr_ireturn dX12_stepY_28 rfl rfl trivial (Nat.le_refl _) (Nat.le_refl _) (And.intro rfl h)
    · have h := h.2.2 hc
      refine zr_iconst (pc' := 11) dX12_stepY_10 rfl ?_
      refine zr_goto (pc' := 28) dX12_stepY_11 rfl ?_
      exact zr_ireturn dX12_stepY_28 rfl rfl trivial (Nat.le_refl _) (Nat.le_refl _) (And.intro rfl h)
set_option maxRecDepth 20000 in
theorem vcX12_ash {E : zE} {M : zM} {Q : Int → zM → Prop} (l1 l2 : Int) (I33 : Nat → Int → Int → Int → Int → zM → Prop) (I54 : Nat → Int → Int → Int → Int → Int → zM → Prop)
    (h : (∀ M1, M1 = zup M 102 2 0 → (zP E mX12_isWorld [.inr (.inr 102), .inl l1] M1 (fun r2 M3 => ((zR r2) ∧ ((r2 = 0 → Q (-1) M3) ∧ (¬ r2 = 0 → (zP E mX12_isCell [.inr (.inr 102), .inl l2] M3 (fun r4 M5 => ((zR r4) ∧ ((¬ r4 = 0 → (0 ≤ l1 ∧ l1 < 3) ∧ ∃ n', I33 n' l1 l2 0 (M5 132 l1.toNat) M5) ∧ (r4 = 0 → Q (-1) M5))))))))))))
    (h33 : ∀ (n : Nat) (l1 l2 l3 l4 : Int) (M : zM), I33 n l1 l2 l3 l4 M → (0 ≤ l1 ∧ l1 < 3) ∧ (0 ≤ l1 ∧ l1 < 3) ∧ ((zR l4 ∧ zR ((M 132 l1.toNat) + (M 135 l1.toNat))) ∧ ((((M 132 l1.toNat) + (M 135 l1.toNat)) ≤ l4 → Q l3 M) ∧ (l4 < ((M 132 l1.toNat) + (M 135 l1.toNat)) → ∃ n', n' < n ∧ I54 n' l1 l2 l3 l4 0 M))))
    (h54 : ∀ (n : Nat) (l1 l2 l3 l4 l5 : Int) (M : zM), I54 n l1 l2 l3 l4 l5 M → (0 ≤ l4 ∧ l4 < 124) ∧ ((zR l5 ∧ zR (M 164 l4.toNat)) ∧ (((M 164 l4.toNat) < l5 → ∃ n', n' < n ∧ I33 n' l1 l2 l3 (l4 + 1) M) ∧ (l5 ≤ (M 164 l4.toNat) → (0 ≤ l1 ∧ l1 < 3) ∧ (zR (M 133 l1.toNat) ∧ zR (M 102 51) ∧ M 102 51 ≠ 0) ∧ (0 ≤ l4 ∧ l4 < 124) ∧ (zP E mX12_stepX [.inl (M 163 l4.toNat)] M (fun r6 M7 => (0 ≤ l1 ∧ l1 < 3) ∧ (zR (M7 133 l1.toNat) ∧ zR (M7 102 51) ∧ M7 102 51 ≠ 0) ∧ (0 ≤ l4 ∧ l4 < 124) ∧ (zP E mX12_stepY [.inl (M7 163 l4.toNat)] M7 (fun r8 M9 => (zR l2 ∧ zR (M9 102 51) ∧ M9 102 51 ≠ 0) ∧ ((zR ((Int.tmod (M 133 l1.toNat) (M 102 51)) + (l5 * r6)) ∧ zR (Int.tmod l2 (M9 102 51))) ∧ ((¬ ((Int.tmod (M 133 l1.toNat) (M 102 51)) + (l5 * r6)) = (Int.tmod l2 (M9 102 51)) → ∃ n', n' < n ∧ I54 n' l1 l2 (l3 + 0) l4 (l5 + 1) M9) ∧ (((Int.tmod (M 133 l1.toNat) (M 102 51)) + (l5 * r6)) = (Int.tmod l2 (M9 102 51)) → (zR l2 ∧ zR (M9 102 51) ∧ M9 102 51 ≠ 0) ∧ ((zR ((Int.tdiv (M7 133 l1.toNat) (M7 102 51)) + (l5 * r8)) ∧ zR (Int.tdiv l2 (M9 102 51))) ∧ ((¬ ((Int.tdiv (M7 133 l1.toNat) (M7 102 51)) + (l5 * r8)) = (Int.tdiv l2 (M9 102 51)) → ∃ n', n' < n ∧ I54 n' l1 l2 (l3 + 0) l4 (l5 + 1) M9) ∧ (((Int.tdiv (M7 133 l1.toNat) (M7 102 51)) + (l5 * r8)) = (Int.tdiv l2 (M9 102 51)) → (0 ≤ l1 ∧ l1 < 3) ∧ ∃ n', n' < n ∧ I54 n' l1 l2 (l3 + (zshr (M9 134 l1.toNat) l5)) l4 (l5 + 1) M9))))))))))))))
    : zP E mX12_ash [.inr (.inr 102), .inl l1, .inl l2] M Q := by
  have key : ∀ n : Nat, (∀ (l1 l2 l3 l4 : Int) (M : zM), I33 n l1 l2 l3 l4 M → zA E zNN (0, 0) mX12_ash 33 [(0, .inr (.inr 102)), (1, .inl l1), (2, .inl l2), (3, .inl l3), (4, .inl l4)] [] M (zQ Q)) ∧ (∀ (l1 l2 l3 l4 l5 : Int) (M : zM), I54 n l1 l2 l3 l4 l5 M → zA E zNN (0, 0) mX12_ash 54 [(0, .inr (.inr 102)), (1, .inl l1), (2, .inl l2), (3, .inl l3), (4, .inl l4), (5, .inl l5)] [] M (zQ Q)) := by
    intro n
    induction n using Nat.strongRecOn with
    | ind n ih =>
      refine ⟨?_, ?_⟩
      · intro l1 l2 l3 l4 M h
        have h := h33 n l1 l2 l3 l4 M h
        refine zr_iload (pc' := 35) dX12_ash_33 rfl rfl ?_
        refine zr_aload_n (pc' := 36) (i := 0) dX12_ash_35 rfl rfl rfl ?_
        refine zr_get (pc' := 39) dX12_ash_36 rfl ps_102 kd_102 fl_X12_109 kc_12 (gv_102_59 _) ?_
        refine zr_iload_n (pc' := 40) (i := 1) dX12_ash_39 rfl rfl rfl ?_
        refine zr_iald (pc' := 41) dX12_ash_40 rfl ps_132 kd_132 (by decide) h.1.1 h.1.2 ?_
        have h := h.2
        refine zr_aload_n (pc' := 42) (i := 0) dX12_ash_41 rfl rfl rfl ?_
        refine zr_get (pc' := 45) dX12_ash_42 rfl ps_102 kd_102 fl_X12_118 kc_12 (gv_102_62 _) ?_
        refine zr_iload_n (pc' := 46) (i := 1) dX12_ash_45 rfl rfl rfl ?_
        refine zr_iald (pc' := 47) dX12_ash_46 rfl ps_135 kd_135 (by decide) h.1.1 h.1.2 ?_
        have h := h.2
        refine zr_iadd (pc' := 48) dX12_ash_47 rfl ?_
        refine zr_icmp_ge (tgt := 170) (pc' := 51) dX12_ash_48 rfl rfl h.1.1 h.1.2 (fun hc => ?_) (fun hc => ?_)
        · have h := h.2.1 hc
          refine zr_iload_n (pc' := 171) (i := 3) dX12_ash_170 rfl rfl rfl ?_
          exact zr_ireturn dX12_ash_171 rfl rfl trivial (Nat.le_refl _) (Nat.le_refl _) (And.intro rfl h)
        · have h := h.2.2 hc
          refine zr_iconst (pc' := 52) dX12_ash_51 rfl ?_
          refine zr_istore (pc' := 54) (al' := [(5, .inl 0), (0, .inr (.inr 102)), (1, .inl l1), (2, .inl l2), (3, .inl l3), (4, .inl l4)]) dX12_ash_52 rfl (by decide) rfl ?_
          obtain ⟨n', hn, h⟩ := h
          exact zn_al ((ih n' hn).2 _ _ _ _ _ _ h) ⟨rfl, rfl, rfl, rfl, rfl, rfl, trivial⟩
      · intro l1 l2 l3 l4 l5 M h
        have h := h54 n l1 l2 l3 l4 l5 M h
        refine zr_iload (pc' := 56) dX12_ash_54 rfl rfl ?_
        refine zr_aload_n (pc' := 57) (i := 0) dX12_ash_56 rfl rfl rfl ?_
        refine zr_get (pc' := 60) dX12_ash_57 rfl ps_102 kd_102 fl_X12_205 kc_12 (gv_102_106 _) ?_
        refine zr_iload (pc' := 62) dX12_ash_60 rfl rfl ?_
        refine zr_iald (pc' := 63) dX12_ash_62 rfl ps_164 kd_164 (by decide) h.1.1 h.1.2 ?_
        have h := h.2
        refine zr_icmp_gt (tgt := 164) (pc' := 66) dX12_ash_63 rfl rfl h.1.1 h.1.2 (fun hc => ?_) (fun hc => ?_)
        · have h := h.2.1 hc
          refine zr_iinc (pc' := 167) (al' := [(4, .inl (l4 + 1)), (0, .inr (.inr 102)), (1, .inl l1), (2, .inl l2), (3, .inl l3), (5, .inl l5)]) dX12_ash_164 rfl rfl (by decide) rfl ?_
          refine zr_goto (pc' := 33) dX12_ash_167 rfl ?_
          obtain ⟨n', hn, h⟩ := h
          exact zn_al ((ih n' hn).1 _ _ _ _ _ h) ⟨rfl, rfl, rfl, rfl, rfl, trivial⟩
        · have h := h.2.2 hc
          refine zr_aload_n (pc' := 67) (i := 0) dX12_ash_66 rfl rfl rfl ?_
          refine zr_get (pc' := 70) dX12_ash_67 rfl ps_102 kd_102 fl_X12_112 kc_12 (gv_102_60 _) ?_
          refine zr_iload_n (pc' := 71) (i := 1) dX12_ash_70 rfl rfl rfl ?_
          refine zr_iald (pc' := 72) dX12_ash_71 rfl ps_133 kd_133 (by decide) h.1.1 h.1.2 ?_
          have h := h.2
          refine zr_aload_n (pc' := 73) (i := 0) dX12_ash_72 rfl rfl rfl ?_
          refine zr_get (pc' := 76) dX12_ash_73 rfl ps_102 kd_102 fl_X12_91 kc_12 (gv_102_51 _) ?_
          refine zr_irem (pc' := 77) dX12_ash_76 rfl h.1.1 h.1.2.1 h.1.2.2 ?_
          have h := h.2
          refine zr_iload (pc' := 79) dX12_ash_77 rfl rfl ?_
          refine zr_aload_n (pc' := 80) (i := 0) dX12_ash_79 rfl rfl rfl ?_
          refine zr_get (pc' := 83) dX12_ash_80 rfl ps_102 kd_102 fl_X12_202 kc_12 (gv_102_105 _) ?_
          refine zr_iload (pc' := 85) dX12_ash_83 rfl rfl ?_
          refine zr_iald (pc' := 86) dX12_ash_85 rfl ps_163 kd_163 (by decide) h.1.1 h.1.2 ?_
          have h := h.2
          refine zn_callS (pc' := 89) (args := [.inl (M 163 l4.toNat)]) (st := [.inl l5, .inl (Int.tmod (M 133 l1.toNat) (M 102 51))]) (st' := fun r6 => [.inl r6, .inl l5, .inl (Int.tmod (M 133 l1.toNat) (M 102 51))]) dX12_ash_86 rfl cs_X12_549 ⟨rfl, rfl, by decide, by decide⟩ rfl rfl rfl (Nat.le_of_ble_eq_true rfl) (fun _ => rfl) h ?_
          intro r6 M7 h
          refine zr_imul (pc' := 90) dX12_ash_89 rfl ?_
          refine zr_iadd (pc' := 91) dX12_ash_90 rfl ?_
          refine zr_istore (pc' := 93) (al' := [(6, .inl ((Int.tmod (M 133 l1.toNat) (M 102 51)) + (l5 * r6))), (0, .inr (.inr 102)), (1, .inl l1), (2, .inl l2), (3, .inl l3), (4, .inl l4), (5, .inl l5)]) dX12_ash_91 rfl (by decide) rfl ?_
          refine zr_aload_n (pc' := 94) (i := 0) dX12_ash_93 rfl rfl rfl ?_
          refine zr_get (pc' := 97) dX12_ash_94 rfl ps_102 kd_102 fl_X12_112 kc_12 (gv_102_60 _) ?_
          refine zr_iload_n (pc' := 98) (i := 1) dX12_ash_97 rfl rfl rfl ?_
          refine zr_iald (pc' := 99) dX12_ash_98 rfl ps_133 kd_133 (by decide) h.1.1 h.1.2 ?_
          have h := h.2
          refine zr_aload_n (pc' := 100) (i := 0) dX12_ash_99 rfl rfl rfl ?_
          refine zr_get (pc' := 103) dX12_ash_100 rfl ps_102 kd_102 fl_X12_91 kc_12 (gv_102_51 _) ?_
          refine zr_idiv (pc' := 104) dX12_ash_103 rfl h.1.1 h.1.2.1 h.1.2.2 ?_
          have h := h.2
          refine zr_iload (pc' := 106) dX12_ash_104 rfl rfl ?_
          refine zr_aload_n (pc' := 107) (i := 0) dX12_ash_106 rfl rfl rfl ?_
          refine zr_get (pc' := 110) dX12_ash_107 rfl ps_102 kd_102 fl_X12_202 kc_12 (gv_102_105 _) ?_
          refine zr_iload (pc' := 112) dX12_ash_110 rfl rfl ?_
          refine zr_iald (pc' := 113) dX12_ash_112 rfl ps_163 kd_163 (by decide) h.1.1 h.1.2 ?_
          have h := h.2
          refine zn_callS (pc' := 116) (args := [.inl (M7 163 l4.toNat)]) (st := [.inl l5, .inl (Int.tdiv (M7 133 l1.toNat) (M7 102 51))]) (st' := fun r8 => [.inl r8, .inl l5, .inl (Int.tdiv (M7 133 l1.toNat) (M7 102 51))]) dX12_ash_113 rfl cs_X12_552 ⟨rfl, rfl, by decide, by decide⟩ rfl rfl rfl (Nat.le_of_ble_eq_true rfl) (fun _ => rfl) h ?_
          intro r8 M9 h
          refine zr_imul (pc' := 117) dX12_ash_116 rfl ?_
          refine zr_iadd (pc' := 118) dX12_ash_117 rfl ?_
          refine zr_istore (pc' := 120) (al' := [(7, .inl ((Int.tdiv (M7 133 l1.toNat) (M7 102 51)) + (l5 * r8))), (6, .inl ((Int.tmod (M 133 l1.toNat) (M 102 51)) + (l5 * r6))), (0, .inr (.inr 102)), (1, .inl l1), (2, .inl l2), (3, .inl l3), (4, .inl l4), (5, .inl l5)]) dX12_ash_118 rfl (by decide) rfl ?_
          refine zr_iload_n (pc' := 121) (i := 3) dX12_ash_120 rfl rfl rfl ?_
          refine zr_iload (pc' := 123) dX12_ash_121 rfl rfl ?_
          refine zr_iload_n (pc' := 124) (i := 2) dX12_ash_123 rfl rfl rfl ?_
          refine zr_aload_n (pc' := 125) (i := 0) dX12_ash_124 rfl rfl rfl ?_
          refine zr_get (pc' := 128) dX12_ash_125 rfl ps_102 kd_102 fl_X12_91 kc_12 (gv_102_51 _) ?_
          refine zr_irem (pc' := 129) dX12_ash_128 rfl h.1.1 h.1.2.1 h.1.2.2 ?_
          have h := h.2
          refine zr_icmp_ne (tgt := 155) (pc' := 132) dX12_ash_129 rfl rfl h.1.1 h.1.2 (fun hc => ?_) (fun hc => ?_)
          · have h := h.2.1 hc
            refine zr_iconst (pc' := 156) dX12_ash_155 rfl ?_
            refine zr_iadd (pc' := 157) dX12_ash_156 rfl ?_
            refine zr_istore_n (pc' := 158) (i := 3) (al' := [(3, .inl (l3 + 0)), (7, .inl ((Int.tdiv (M7 133 l1.toNat) (M7 102 51)) + (l5 * r8))), (6, .inl ((Int.tmod (M 133 l1.toNat) (M 102 51)) + (l5 * r6))), (0, .inr (.inr 102)), (1, .inl l1), (2, .inl l2), (4, .inl l4), (5, .inl l5)]) dX12_ash_157 rfl rfl (by decide) rfl ?_
            refine zr_iinc (pc' := 161) (al' := [(5, .inl (l5 + 1)), (3, .inl (l3 + 0)), (7, .inl ((Int.tdiv (M7 133 l1.toNat) (M7 102 51)) + (l5 * r8))), (6, .inl ((Int.tmod (M 133 l1.toNat) (M 102 51)) + (l5 * r6))), (0, .inr (.inr 102)), (1, .inl l1), (2, .inl l2), (4, .inl l4)]) dX12_ash_158 rfl rfl (by decide) rfl ?_
            refine zr_goto (pc' := 54) dX12_ash_161 rfl ?_
            obtain ⟨n', hn, h⟩ := h
            exact zn_al ((ih n' hn).2 _ _ _ _ _ _ h) ⟨rfl, rfl, rfl, rfl, rfl, rfl, trivial⟩
          · have h := h.2.2 hc
            refine zr_iload (pc' := 134) dX12_ash_132 rfl rfl ?_
            refine zr_iload_n (pc' := 135) (i := 2) dX12_ash_134 rfl rfl rfl ?_
            refine zr_aload_n (pc' := 136) (i := 0) dX12_ash_135 rfl rfl rfl ?_
            refine zr_get (pc' := 139) dX12_ash_136 rfl ps_102 kd_102 fl_X12_91 kc_12 (gv_102_51 _) ?_
            refine zr_idiv (pc' := 140) dX12_ash_139 rfl h.1.1 h.1.2.1 h.1.2.2 ?_
            have h := h.2
            refine zr_icmp_ne (tgt := 155) (pc' := 143) dX12_ash_140 rfl rfl h.1.1 h.1.2 (fun hc => ?_) (fun hc => ?_)
            · have h := h.2.1 hc
              refine zr_iconst (pc' := 156) dX12_ash_155 rfl ?_
              refine zr_iadd (pc' := 157) dX12_ash_156 rfl ?_
              refine zr_istore_n (pc' := 158) (i := 3) (al' := [(3, .inl (l3 + 0)), (7, .inl ((Int.tdiv (M7 133 l1.toNat) (M7 102 51)) + (l5 * r8))), (6, .inl ((Int.tmod (M 133 l1.toNat) (M 102 51)) + (l5 * r6))), (0, .inr (.inr 102)), (1, .inl l1), (2, .inl l2), (4, .inl l4), (5, .inl l5)]) dX12_ash_157 rfl rfl (by decide) rfl ?_
              refine zr_iinc (pc' := 161) (al' := [(5, .inl (l5 + 1)), (3, .inl (l3 + 0)), (7, .inl ((Int.tdiv (M7 133 l1.toNat) (M7 102 51)) + (l5 * r8))), (6, .inl ((Int.tmod (M 133 l1.toNat) (M 102 51)) + (l5 * r6))), (0, .inr (.inr 102)), (1, .inl l1), (2, .inl l2), (4, .inl l4)]) dX12_ash_158 rfl rfl (by decide) rfl ?_
              refine zr_goto (pc' := 54) dX12_ash_161 rfl ?_
              obtain ⟨n', hn, h⟩ := h
              exact zn_al ((ih n' hn).2 _ _ _ _ _ _ h) ⟨rfl, rfl, rfl, rfl, rfl, rfl, trivial⟩
            · have h := h.2.2 hc
              refine zr_aload_n (pc' := 144) (i := 0) dX12_ash_143 rfl rfl rfl ?_
              refine zr_get (pc' := 147) dX12_ash_144 rfl ps_102 kd_102 fl_X12_115 kc_12 (gv_102_61 _) ?_
              refine zr_iload_n (pc' := 148) (i := 1) dX12_ash_147 rfl rfl rfl ?_
              refine zr_iald (pc' := 149) dX12_ash_148 rfl ps_134 kd_134 (by decide) h.1.1 h.1.2 ?_
              have h := h.2
              refine zr_iload (pc' := 151) dX12_ash_149 rfl rfl ?_
              refine zr_ishr (pc' := 152) dX12_ash_151 rfl ?_
              refine zr_goto (pc' := 156) dX12_ash_152 rfl ?_
              refine zr_iadd (pc' := 157) dX12_ash_156 rfl ?_
              refine zr_istore_n (pc' := 158) (i := 3) (al' := [(3, .inl (l3 + (zshr (M9 134 l1.toNat) l5))), (7, .inl ((Int.tdiv (M7 133 l1.toNat) (M7 102 51)) + (l5 * r8))), (6, .inl ((Int.tmod (M 133 l1.toNat) (M 102 51)) + (l5 * r6))), (0, .inr (.inr 102)), (1, .inl l1), (2, .inl l2), (4, .inl l4), (5, .inl l5)]) dX12_ash_157 rfl rfl (by decide) rfl ?_
              refine zr_iinc (pc' := 161) (al' := [(5, .inl (l5 + 1)), (3, .inl (l3 + (zshr (M9 134 l1.toNat) l5))), (7, .inl ((Int.tdiv (M7 133 l1.toNat) (M7 102 51)) + (l5 * r8))), (6, .inl ((Int.tmod (M 133 l1.toNat) (M 102 51)) + (l5 * r6))), (0, .inr (.inr 102)), (1, .inl l1), (2, .inl l2), (4, .inl l4)]) dX12_ash_158 rfl rfl (by decide) rfl ?_
              refine zr_goto (pc' := 54) dX12_ash_161 rfl ?_
              obtain ⟨n', hn, h⟩ := h
              exact zn_al ((ih n' hn).2 _ _ _ _ _ _ h) ⟨rfl, rfl, rfl, rfl, rfl, rfl, trivial⟩
  refine zP_of (by decide +kernel) rfl (Nat.le_of_ble_eq_true rfl) ?_
  show zA E zNN (0, 0) mX12_ash 0 [(0, .inr (.inr 102)), (1, .inl l1), (2, .inl l2)] [] M (zQ Q)
  refine zr_aload_n (pc' := 1) (i := 0) dX12_ash_0 rfl rfl rfl ?_
  refine zr_iconst (pc' := 2) dX12_ash_1 rfl ?_
  refine zr_put (pc' := 5) dX12_ash_2 rfl ps_102 kd_102 fl_X12_208 kc_12 rfl nf_102_2 rfl trivial (fun M1 hM1 => ?_)
  have h := h M1 hM1
  refine zr_aload_n (pc' := 6) (i := 0) dX12_ash_5 rfl rfl rfl ?_
  refine zr_iload_n (pc' := 7) (i := 1) dX12_ash_6 rfl rfl rfl ?_
  refine zn_callV (pc' := 10) (args := [.inl l1]) (st := []) (st' := fun r2 => [.inl r2]) dX12_ash_7 rfl cv_X12_446 ⟨rfl, rfl, by decide, by decide⟩ rfl ps_102 kd_102 rfl rfl (Nat.le_of_ble_eq_true rfl) (fun _ => rfl) h ?_
  intro r2 M3 h
  refine zr_if_eq (tgt := 21) (pc' := 13) dX12_ash_10 rfl rfl h.1 (fun hc => ?_) (fun hc => ?_)
  · have h := h.2.1 hc
    refine zr_iconst (pc' := 22) dX12_ash_21 rfl ?_
    exact zr_ireturn dX12_ash_22 rfl rfl trivial (Nat.le_refl _) (Nat.le_refl _) (And.intro rfl h)
  · have h := h.2.2 hc
    refine zr_aload_n (pc' := 14) (i := 0) dX12_ash_13 rfl rfl rfl ?_
    refine zr_iload_n (pc' := 15) (i := 2) dX12_ash_14 rfl rfl rfl ?_
    refine zn_callV (pc' := 18) (args := [.inl l2]) (st := []) (st' := fun r4 => [.inl r4]) dX12_ash_15 rfl cv_X12_423 ⟨rfl, rfl, by decide, by decide⟩ rfl ps_102 kd_102 rfl rfl (Nat.le_of_ble_eq_true rfl) (fun _ => rfl) h ?_
    intro r4 M5 h
    refine zr_if_ne (tgt := 23) (pc' := 21) dX12_ash_18 rfl rfl h.1 (fun hc => ?_) (fun hc => ?_)
    · have h := h.2.1 hc
      refine zr_iconst (pc' := 24) dX12_ash_23 rfl ?_
      refine zr_istore_n (pc' := 25) (i := 3) (al' := [(3, .inl 0), (0, .inr (.inr 102)), (1, .inl l1), (2, .inl l2)]) dX12_ash_24 rfl rfl (by decide) rfl ?_
      refine zr_aload_n (pc' := 26) (i := 0) dX12_ash_25 rfl rfl rfl ?_
      refine zr_get (pc' := 29) dX12_ash_26 rfl ps_102 kd_102 fl_X12_109 kc_12 (gv_102_59 _) ?_
      refine zr_iload_n (pc' := 30) (i := 1) dX12_ash_29 rfl rfl rfl ?_
      refine zr_iald (pc' := 31) dX12_ash_30 rfl ps_132 kd_132 (by decide) h.1.1 h.1.2 ?_
      have h := h.2
      refine zr_istore (pc' := 33) (al' := [(4, .inl (M5 132 l1.toNat)), (3, .inl 0), (0, .inr (.inr 102)), (1, .inl l1), (2, .inl l2)]) dX12_ash_31 rfl (by decide) rfl ?_
      obtain ⟨n', h⟩ := h
      exact zn_al ((key n').1 _ _ _ _ _ h) ⟨rfl, rfl, rfl, rfl, rfl, trivial⟩
    · have h := h.2.2 hc
      refine zr_iconst (pc' := 22) dX12_ash_21 rfl ?_
      exact zr_ireturn dX12_ash_22 rfl rfl trivial (Nat.le_refl _) (Nat.le_refl _) (And.intro rfl h)
set_option maxRecDepth 20000 in
theorem vcX12_throwsOut {E : zE} {M : zM} {Q : Int → zM → Prop} (l1 : Int)
    (h : (∀ M1, M1 = zup M 102 2 l1 → Q 0 M1))
    : zP E mX12_throwsOut [.inr (.inr 102), .inl l1] M Q := by
  refine zP_of (by decide +kernel) rfl (Nat.le_of_ble_eq_true rfl) ?_
  show zA E zNN (0, 0) mX12_throwsOut 0 [(0, .inr (.inr 102)), (1, .inl l1)] [] M (zQ Q)
  refine zr_aload_n (pc' := 1) (i := 0) dX12_throwsOut_0 rfl rfl rfl ?_
  refine zr_iload_n (pc' := 2) (i := 1) dX12_throwsOut_1 rfl rfl rfl ?_
  refine zr_put (pc' := 5) dX12_throwsOut_2 rfl ps_102 kd_102 fl_X12_208 kc_12 rfl nf_102_2 rfl trivial (fun M1 hM1 => ?_)
  have h := h M1 hM1
  refine zr_iconst (pc' := 6) dX12_throwsOut_5 rfl ?_
  exact zr_ireturn dX12_throwsOut_6 rfl rfl trivial (Nat.le_refl _) (Nat.le_refl _) (And.intro rfl h)
set_option maxRecDepth 20000 in
theorem vcX12_look {E : zE} {M : zM} {Q : Int → zM → Prop} (l1 l2 : Int)
    (h : (∀ M1, M1 = zup M 102 2 0 → (zP E mX12_isCell [.inr (.inr 102), .inl l1] M1 (fun r2 M3 => ((zR r2) ∧ ((¬ r2 = 0 → ((zR l2) ∧ ((¬ l2 = 0 → ((zR l2) ∧ ((¬ l2 = 1 → ((zR l2) ∧ ((¬ l2 = 2 → (zP E mX12_throwsOut [.inr (.inr 102), .inl 2] M3 (fun r4 M5 => Q r4 M5))) ∧ (l2 = 2 → (0 ≤ l1 ∧ l1 < 64) ∧ ((zR (M3 130 l1.toNat)) ∧ (((M3 130 l1.toNat) = 0 → (0 ≤ l1 ∧ l1 < 64) ∧ ((zR (M3 131 l1.toNat)) ∧ (((M3 131 l1.toNat) = 0 → Q (0 + 0) M3) ∧ (¬ (M3 131 l1.toNat) = 0 → Q (0 + 2) M3)))) ∧ (¬ (M3 130 l1.toNat) = 0 → (0 ≤ l1 ∧ l1 < 64) ∧ ((zR (M3 131 l1.toNat)) ∧ (((M3 131 l1.toNat) = 0 → Q (1 + 0) M3) ∧ (¬ (M3 131 l1.toNat) = 0 → Q (1 + 2) M3)))))))))) ∧ (l2 = 1 → (0 ≤ l1 ∧ l1 < 64) ∧ Q (M3 129 l1.toNat) M3)))) ∧ (l2 = 0 → (0 ≤ l1 ∧ l1 < 64) ∧ Q (M3 128 l1.toNat) M3)))) ∧ (r2 = 0 → (zP E mX12_throwsOut [.inr (.inr 102), .inl 1] M3 (fun r6 M7 => Q r6 M7)))))))))
    : zP E mX12_look [.inr (.inr 102), .inl l1, .inl l2] M Q := by
  refine zP_of (by decide +kernel) rfl (Nat.le_of_ble_eq_true rfl) ?_
  show zA E zNN (0, 0) mX12_look 0 [(0, .inr (.inr 102)), (1, .inl l1), (2, .inl l2)] [] M (zQ Q)
  refine zr_aload_n (pc' := 1) (i := 0) dX12_look_0 rfl rfl rfl ?_
  refine zr_iconst (pc' := 2) dX12_look_1 rfl ?_
  refine zr_put (pc' := 5) dX12_look_2 rfl ps_102 kd_102 fl_X12_208 kc_12 rfl nf_102_2 rfl trivial (fun M1 hM1 => ?_)
  have h := h M1 hM1
  refine zr_aload_n (pc' := 6) (i := 0) dX12_look_5 rfl rfl rfl ?_
  refine zr_iload_n (pc' := 7) (i := 1) dX12_look_6 rfl rfl rfl ?_
  refine zn_callV (pc' := 10) (args := [.inl l1]) (st := []) (st' := fun r2 => [.inl r2]) dX12_look_7 rfl cv_X12_423 ⟨rfl, rfl, by decide, by decide⟩ rfl ps_102 kd_102 rfl rfl (Nat.le_of_ble_eq_true rfl) (fun _ => rfl) h ?_
  intro r2 M3 h
  refine zr_if_ne (tgt := 19) (pc' := 13) dX12_look_10 rfl rfl h.1 (fun hc => ?_) (fun hc => ?_)
  · have h := h.2.1 hc
    refine zr_iload_n (pc' := 20) (i := 2) dX12_look_19 rfl rfl rfl ?_
    refine zr_if_ne (tgt := 32) (pc' := 23) dX12_look_20 rfl rfl h.1 (fun hc => ?_) (fun hc => ?_)
    · have h := h.2.1 hc
      refine zr_iload_n (pc' := 33) (i := 2) dX12_look_32 rfl rfl rfl ?_
      refine zr_iconst (pc' := 34) dX12_look_33 rfl ?_
      refine zr_icmp_ne (tgt := 46) (pc' := 37) dX12_look_34 rfl rfl h.1 (zRd rfl) (fun hc => ?_) (fun hc => ?_)
      · have h := h.2.1 hc
        refine zr_iload_n (pc' := 47) (i := 2) dX12_look_46 rfl rfl rfl ?_
        refine zr_iconst (pc' := 48) dX12_look_47 rfl ?_
        refine zr_icmp_ne (tgt := 83) (pc' := 51) dX12_look_48 rfl rfl h.1 (zRd rfl) (fun hc => ?_) (fun hc => ?_)
        · have h := h.2.1 hc
          refine zr_aload_n (pc' := 84) (i := 0) dX12_look_83 rfl rfl rfl ?_
          refine zr_iconst (pc' := 85) dX12_look_84 rfl ?_
          refine zn_callV (pc' := 88) (args := [.inl 2]) (st := []) (st' := fun r4 => [.inl r4]) dX12_look_85 rfl cv_X12_555 ⟨rfl, rfl, by decide, by decide⟩ rfl ps_102 kd_102 rfl rfl (Nat.le_of_ble_eq_true rfl) (fun _ => rfl) h ?_
          intro r4 M5 h
          exact zr_ireturn dX12_look_88 rfl rfl trivial (Nat.le_refl _) (Nat.le_refl _) (And.intro rfl h)
        · have h := h.2.2 hc
          refine zr_aload_n (pc' := 52) (i := 0) dX12_look_51 rfl rfl rfl ?_
          refine zr_get (pc' := 55) dX12_look_52 rfl ps_102 kd_102 fl_X12_103 kc_12 (gv_102_55 _) ?_
          refine zr_iload_n (pc' := 56) (i := 1) dX12_look_55 rfl rfl rfl ?_
          refine zr_zald (pc' := 57) dX12_look_56 rfl ps_130 kd_130 (by decide) h.1.1 h.1.2 ?_
          have h := h.2
          refine zr_if_eq (tgt := 64) (pc' := 60) dX12_look_57 rfl rfl h.1 (fun hc => ?_) (fun hc => ?_)
          · have h := h.2.1 hc
            refine zr_iconst (pc' := 65) dX12_look_64 rfl ?_
            refine zr_aload_n (pc' := 66) (i := 0) dX12_look_65 rfl rfl rfl ?_
            refine zr_get (pc' := 69) dX12_look_66 rfl ps_102 kd_102 fl_X12_106 kc_12 (gv_102_56 _) ?_
            refine zr_iload_n (pc' := 70) (i := 1) dX12_look_69 rfl rfl rfl ?_
            refine zr_zald (pc' := 71) dX12_look_70 rfl ps_131 kd_131 (by decide) h.1.1 h.1.2 ?_
            have h := h.2
            refine zr_if_eq (tgt := 78) (pc' := 74) dX12_look_71 rfl rfl h.1 (fun hc => ?_) (fun hc => ?_)
            · have h := h.2.1 hc
              refine zr_iconst (pc' := 79) dX12_look_78 rfl ?_
              refine zr_iadd (pc' := 80) dX12_look_79 rfl ?_
              refine zr_goto (pc' := 88) dX12_look_80 rfl ?_
              exact zr_ireturn dX12_look_88 rfl rfl trivial (Nat.le_refl _) (Nat.le_refl _) (And.intro rfl h)
            · have h := h.2.2 hc
              refine zr_iconst (pc' := 75) dX12_look_74 rfl ?_
              refine zr_goto (pc' := 79) dX12_look_75 rfl ?_
              refine zr_iadd (pc' := 80) dX12_look_79 rfl ?_
              refine zr_goto (pc' := 88) dX12_look_80 rfl ?_
              exact zr_ireturn dX12_look_88 rfl rfl trivial (Nat.le_refl _) (Nat.le_refl _) (And.intro rfl h)
          · have h := h.2.2 hc
            refine zr_iconst (pc' := 61) dX12_look_60 rfl ?_
            refine zr_goto (pc' := 65) dX12_look_61 rfl ?_
            refine zr_aload_n (pc' := 66) (i := 0) dX12_look_65 rfl rfl rfl ?_
            refine zr_get (pc' := 69) dX12_look_66 rfl ps_102 kd_102 fl_X12_106 kc_12 (gv_102_56 _) ?_
            refine zr_iload_n (pc' := 70) (i := 1) dX12_look_69 rfl rfl rfl ?_
            refine zr_zald (pc' := 71) dX12_look_70 rfl ps_131 kd_131 (by decide) h.1.1 h.1.2 ?_
            have h := h.2
            refine zr_if_eq (tgt := 78) (pc' := 74) dX12_look_71 rfl rfl h.1 (fun hc => ?_) (fun hc => ?_)
            · have h := h.2.1 hc
              refine zr_iconst (pc' := 79) dX12_look_78 rfl ?_
              refine zr_iadd (pc' := 80) dX12_look_79 rfl ?_
              refine zr_goto (pc' := 88) dX12_look_80 rfl ?_
              exact zr_ireturn dX12_look_88 rfl rfl trivial (Nat.le_refl _) (Nat.le_refl _) (And.intro rfl h)
            · have h := h.2.2 hc
              refine zr_iconst (pc' := 75) dX12_look_74 rfl ?_
              refine zr_goto (pc' := 79) dX12_look_75 rfl ?_
              refine zr_iadd (pc' := 80) dX12_look_79 rfl ?_
              refine zr_goto (pc' := 88) dX12_look_80 rfl ?_
              exact zr_ireturn dX12_look_88 rfl rfl trivial (Nat.le_refl _) (Nat.le_refl _) (And.intro rfl h)
      · have h := h.2.2 hc
        refine zr_aload_n (pc' := 38) (i := 0) dX12_look_37 rfl rfl rfl ?_
        refine zr_get (pc' := 41) dX12_look_38 rfl ps_102 kd_102 fl_X12_100 kc_12 (gv_102_54 _) ?_
        refine zr_iload_n (pc' := 42) (i := 1) dX12_look_41 rfl rfl rfl ?_
        refine zr_iald (pc' := 43) dX12_look_42 rfl ps_129 kd_129 (by decide) h.1.1 h.1.2 ?_
        have h := h.2
        refine zr_goto (pc' := 88) dX12_look_43 rfl ?_
        exact zr_ireturn dX12_look_88 rfl rfl trivial (Nat.le_refl _) (Nat.le_refl _) (And.intro rfl h)
    · have h := h.2.2 hc
      refine zr_aload_n (pc' := 24) (i := 0) dX12_look_23 rfl rfl rfl ?_
      refine zr_get (pc' := 27) dX12_look_24 rfl ps_102 kd_102 fl_X12_97 kc_12 (gv_102_53 _) ?_
      refine zr_iload_n (pc' := 28) (i := 1) dX12_look_27 rfl rfl rfl ?_
      refine zr_iald (pc' := 29) dX12_look_28 rfl ps_128 kd_128 (by decide) h.1.1 h.1.2 ?_
      have h := h.2
      refine zr_goto (pc' := 88) dX12_look_29 rfl ?_
      exact zr_ireturn dX12_look_88 rfl rfl trivial (Nat.le_refl _) (Nat.le_refl _) (And.intro rfl h)
  · have h := h.2.2 hc
    refine zr_aload_n (pc' := 14) (i := 0) dX12_look_13 rfl rfl rfl ?_
    refine zr_iconst (pc' := 15) dX12_look_14 rfl ?_
    refine zn_callV (pc' := 18) (args := [.inl 1]) (st := []) (st' := fun r6 => [.inl r6]) dX12_look_15 rfl cv_X12_555 ⟨rfl, rfl, by decide, by decide⟩ rfl ps_102 kd_102 rfl rfl (Nat.le_of_ble_eq_true rfl) (fun _ => rfl) h ?_
    intro r6 M7 h
    exact zr_ireturn dX12_look_18 rfl rfl trivial (Nat.le_refl _) (Nat.le_refl _) (And.intro rfl h)
set_option maxRecDepth 20000 in
theorem vcX12_count {E : zE} {M : zM} {Q : Int → zM → Prop} (l1 : Int)
    (h : (∀ M1, M1 = zup M 102 2 0 → (zR l1 ∧ ((l1 < 0 ∨ 10 < l1) → Q (-1) M1) ∧ (l1 = 0 → Q (M1 102 3) M1) ∧ (l1 = 1 → Q (M1 102 4) M1) ∧ (l1 = 2 → Q (M1 102 6) M1) ∧ (l1 = 3 → Q (M1 102 32) M1) ∧ (l1 = 4 → Q (M1 102 34) M1) ∧ (l1 = 5 → Q (M1 102 37) M1) ∧ (l1 = 6 → Q (M1 102 58) M1) ∧ (l1 = 7 → Q (M1 102 69) M1) ∧ (l1 = 8 → Q (M1 102 76) M1) ∧ (l1 = 9 → Q (M1 102 96) M1) ∧ (l1 = 10 → Q (M1 102 57) M1))))
    : zP E mX12_count [.inr (.inr 102), .inl l1] M Q := by
  refine zP_of (by decide +kernel) rfl (Nat.le_of_ble_eq_true rfl) ?_
  show zA E zNN (0, 0) mX12_count 0 [(0, .inr (.inr 102)), (1, .inl l1)] [] M (zQ Q)
  refine zr_aload_n (pc' := 1) (i := 0) dX12_count_0 rfl rfl rfl ?_
  refine zr_iconst (pc' := 2) dX12_count_1 rfl ?_
  refine zr_put (pc' := 5) dX12_count_2 rfl ps_102 kd_102 fl_X12_208 kc_12 rfl nf_102_2 rfl trivial (fun M1 hM1 => ?_)
  have h := h M1 hM1
  refine zr_iload_n (pc' := 6) (i := 1) dX12_count_5 rfl rfl rfl ?_
  by_cases hsw : l1 < 0 ∨ 10 < l1
  · refine zr_tableOut (tgt := 119) dX12_count_6 h.1 hsw rfl ?_
    have h := h.2.1 hsw
    refine zr_iconst (pc' := 120) dX12_count_119 rfl ?_
    exact zr_ireturn dX12_count_120 rfl rfl trivial (Nat.le_refl _) (Nat.le_refl _) (And.intro rfl h)
  · have hsx : l1 = 0 ∨ l1 = 1 ∨ l1 = 2 ∨ l1 = 3 ∨ l1 = 4 ∨ l1 = 5 ∨ l1 = 6 ∨ l1 = 7 ∨ l1 = 8 ∨ l1 = 9 ∨ l1 = 10 := by omega
    rcases hsx with hsx | hsx | hsx | hsx | hsx | hsx | hsx | hsx | hsx | hsx | hsx
    · refine zr_tableIn (off := 58) (tgt := 64) dX12_count_6 h.1 (by omega) (by omega) (by rw [hsx]; rfl) rfl ?_
      have h := h.2.2.1 hsx
      refine zr_aload_n (pc' := 65) (i := 0) dX12_count_64 rfl rfl rfl ?_
      refine zr_get (pc' := 68) dX12_count_65 rfl ps_102 kd_102 fl_X12_218 kc_12 (gv_102_3 _) ?_
      exact zr_ireturn dX12_count_68 rfl rfl trivial (Nat.le_refl _) (Nat.le_refl _) (And.intro rfl h)
    · refine zr_tableIn (off := 63) (tgt := 69) dX12_count_6 h.1 (by omega) (by omega) (by rw [hsx]; rfl) rfl ?_
      have h := h.2.2.2.1 hsx
      refine zr_aload_n (pc' := 70) (i := 0) dX12_count_69 rfl rfl rfl ?_
      refine zr_get (pc' := 73) dX12_count_70 rfl ps_102 kd_102 fl_X12_221 kc_12 (gv_102_4 _) ?_
      exact zr_ireturn dX12_count_73 rfl rfl trivial (Nat.le_refl _) (Nat.le_refl _) (And.intro rfl h)
    · refine zr_tableIn (off := 68) (tgt := 74) dX12_count_6 h.1 (by omega) (by omega) (by rw [hsx]; rfl) rfl ?_
      have h := h.2.2.2.2.1 hsx
      refine zr_aload_n (pc' := 75) (i := 0) dX12_count_74 rfl rfl rfl ?_
      refine zr_get (pc' := 78) dX12_count_75 rfl ps_102 kd_102 fl_X12_228 kc_12 (gv_102_6 _) ?_
      exact zr_ireturn dX12_count_78 rfl rfl trivial (Nat.le_refl _) (Nat.le_refl _) (And.intro rfl h)
    · refine zr_tableIn (off := 73) (tgt := 79) dX12_count_6 h.1 (by omega) (by omega) (by rw [hsx]; rfl) rfl ?_
      have h := h.2.2.2.2.2.1 hsx
      refine zr_aload_n (pc' := 80) (i := 0) dX12_count_79 rfl rfl rfl ?_
      refine zr_get (pc' := 83) dX12_count_80 rfl ps_102 kd_102 fl_X12_366 kc_12 (gv_102_32 _) ?_
      exact zr_ireturn dX12_count_83 rfl rfl trivial (Nat.le_refl _) (Nat.le_refl _) (And.intro rfl h)
    · refine zr_tableIn (off := 78) (tgt := 84) dX12_count_6 h.1 (by omega) (by omega) (by rw [hsx]; rfl) rfl ?_
      have h := h.2.2.2.2.2.2.1 hsx
      refine zr_aload_n (pc' := 85) (i := 0) dX12_count_84 rfl rfl rfl ?_
      refine zr_get (pc' := 88) dX12_count_85 rfl ps_102 kd_102 fl_X12_369 kc_12 (gv_102_34 _) ?_
      exact zr_ireturn dX12_count_88 rfl rfl trivial (Nat.le_refl _) (Nat.le_refl _) (And.intro rfl h)
    · refine zr_tableIn (off := 83) (tgt := 89) dX12_count_6 h.1 (by omega) (by omega) (by rw [hsx]; rfl) rfl ?_
      have h := h.2.2.2.2.2.2.2.1 hsx
      refine zr_aload_n (pc' := 90) (i := 0) dX12_count_89 rfl rfl rfl ?_
      refine zr_get (pc' := 93) dX12_count_90 rfl ps_102 kd_102 fl_X12_372 kc_12 (gv_102_37 _) ?_
      exact zr_ireturn dX12_count_93 rfl rfl trivial (Nat.le_refl _) (Nat.le_refl _) (And.intro rfl h)
    · refine zr_tableIn (off := 88) (tgt := 94) dX12_count_6 h.1 (by omega) (by omega) (by rw [hsx]; rfl) rfl ?_
      have h := h.2.2.2.2.2.2.2.2.1 hsx
      refine zr_aload_n (pc' := 95) (i := 0) dX12_count_94 rfl rfl rfl ?_
      refine zr_get (pc' := 98) dX12_count_95 rfl ps_102 kd_102 fl_X12_411 kc_12 (gv_102_58 _) ?_
      exact zr_ireturn dX12_count_98 rfl rfl trivial (Nat.le_refl _) (Nat.le_refl _) (And.intro rfl h)
    · refine zr_tableIn (off := 93) (tgt := 99) dX12_count_6 h.1 (by omega) (by omega) (by rw [hsx]; rfl) rfl ?_
      have h := h.2.2.2.2.2.2.2.2.2.1 hsx
      refine zr_aload_n (pc' := 100) (i := 0) dX12_count_99 rfl rfl rfl ?_
      refine zr_get (pc' := 103) dX12_count_100 rfl ps_102 kd_102 fl_X12_414 kc_12 (gv_102_69 _) ?_
      exact zr_ireturn dX12_count_103 rfl rfl trivial (Nat.le_refl _) (Nat.le_refl _) (And.intro rfl h)
    · refine zr_tableIn (off := 98) (tgt := 104) dX12_count_6 h.1 (by omega) (by omega) (by rw [hsx]; rfl) rfl ?_
      have h := h.2.2.2.2.2.2.2.2.2.2.1 hsx
      refine zr_aload_n (pc' := 105) (i := 0) dX12_count_104 rfl rfl rfl ?_
      refine zr_get (pc' := 108) dX12_count_105 rfl ps_102 kd_102 fl_X12_417 kc_12 (gv_102_76 _) ?_
      exact zr_ireturn dX12_count_108 rfl rfl trivial (Nat.le_refl _) (Nat.le_refl _) (And.intro rfl h)
    · refine zr_tableIn (off := 103) (tgt := 109) dX12_count_6 h.1 (by omega) (by omega) (by rw [hsx]; rfl) rfl ?_
      have h := h.2.2.2.2.2.2.2.2.2.2.2.1 hsx
      refine zr_aload_n (pc' := 110) (i := 0) dX12_count_109 rfl rfl rfl ?_
      refine zr_get (pc' := 113) dX12_count_110 rfl ps_102 kd_102 fl_X12_420 kc_12 (gv_102_96 _) ?_
      exact zr_ireturn dX12_count_113 rfl rfl trivial (Nat.le_refl _) (Nat.le_refl _) (And.intro rfl h)
    · refine zr_tableIn (off := 108) (tgt := 114) dX12_count_6 h.1 (by omega) (by omega) (by rw [hsx]; rfl) rfl ?_
      have h := h.2.2.2.2.2.2.2.2.2.2.2.2 hsx
      refine zr_aload_n (pc' := 115) (i := 0) dX12_count_114 rfl rfl rfl ?_
      refine zr_get (pc' := 118) dX12_count_115 rfl ps_102 kd_102 fl_X12_408 kc_12 (gv_102_57 _) ?_
      exact zr_ireturn dX12_count_118 rfl rfl trivial (Nat.le_refl _) (Nat.le_refl _) (And.intro rfl h)
