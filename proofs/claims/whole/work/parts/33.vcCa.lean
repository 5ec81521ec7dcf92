set_option maxRecDepth 20000 in
theorem vcX0_lavaBehind {E : zE} {M : zM} {Q : Int → zM → Prop} (l0 l1 l2 : Int) (hi0 : zIs_0 l0)
    (h : (0 ≤ (l1 * 64) + l2 ∧ (l1 * 64) + l2 < 832) ∧ Q (M (l0 + 1).toNat (((l1 * 64) + l2).toNat)) M)
    : zP E mX0_lavaBehind [.inr (.inr l0), .inl l1, .inl l2] M Q := by
  refine zP_of (by decide +kernel) rfl (Nat.le_of_ble_eq_true rfl) ?_
  show zA E zNN (0, 0) mX0_lavaBehind 0 [(0, .inr (.inr l0)), (1, .inl l1), (2, .inl l2)] [] M (zQ Q)
  refine zr_aload_n (pc' := 1) (i := 0) dX0_lavaBehind_0 rfl rfl rfl ?_
  refine zr_get (pc' := 4) dX0_lavaBehind_1 rfl (is_0_pos hi0) (is_0_kd hi0) fl_X0_13 kc_0 (is_0_gv_0 hi0 _) ?_
  refine zr_iload_n (pc' := 5) (i := 1) dX0_lavaBehind_4 rfl rfl rfl ?_
  refine zr_bipush (pc' := 7) dX0_lavaBehind_5 rfl rfl ?_
  refine zr_imul (pc' := 8) dX0_lavaBehind_7 rfl ?_
  refine zr_iload_n (pc' := 9) (i := 2) dX0_lavaBehind_8 rfl rfl rfl ?_
  refine zr_iadd (pc' := 10) dX0_lavaBehind_9 rfl ?_
  refine zr_iald (pc' := 11) dX0_lavaBehind_10 rfl (is_0_kp_0 hi0) (is_0_ka_0 hi0) (by decide) h.1.1 h.1.2 ?_
  have h := h.2
  exact zr_ireturn dX0_lavaBehind_11 rfl rfl trivial (Nat.le_refl _) (Nat.le_refl _) (And.intro rfl h)
set_option maxRecDepth 20000 in
theorem vcX0_groundBehind {E : zE} {M : zM} {Q : Int → zM → Prop} (l0 l1 l2 : Int) (hi0 : zIs_0 l0)
    (h : (0 ≤ (l1 * 64) + l2 ∧ (l1 * 64) + l2 < 832) ∧ Q (M (l0 + 2).toNat (((l1 * 64) + l2).toNat)) M)
    : zP E mX0_groundBehind [.inr (.inr l0), .inl l1, .inl l2] M Q := by
  refine zP_of (by decide +kernel) rfl (Nat.le_of_ble_eq_true rfl) ?_
  show zA E zNN (0, 0) mX0_groundBehind 0 [(0, .inr (.inr l0)), (1, .inl l1), (2, .inl l2)] [] M (zQ Q)
  refine zr_aload_n (pc' := 1) (i := 0) dX0_groundBehind_0 rfl rfl rfl ?_
  refine zr_get (pc' := 4) dX0_groundBehind_1 rfl (is_0_pos hi0) (is_0_kd hi0) fl_X0_17 kc_0 (is_0_gv_1 hi0 _) ?_
  refine zr_iload_n (pc' := 5) (i := 1) dX0_groundBehind_4 rfl rfl rfl ?_
  refine zr_bipush (pc' := 7) dX0_groundBehind_5 rfl rfl ?_
  refine zr_imul (pc' := 8) dX0_groundBehind_7 rfl ?_
  refine zr_iload_n (pc' := 9) (i := 2) dX0_groundBehind_8 rfl rfl rfl ?_
  refine zr_iadd (pc' := 10) dX0_groundBehind_9 rfl ?_
  refine zr_iald (pc' := 11) dX0_groundBehind_10 rfl (is_0_kp_1 hi0) (is_0_ka_1 hi0) (by decide) h.1.1 h.1.2 ?_
  have h := h.2
  exact zr_ireturn dX0_groundBehind_11 rfl rfl trivial (Nat.le_refl _) (Nat.le_refl _) (And.intro rfl h)
set_option maxRecDepth 20000 in
theorem vcX0_stepLava {E : zE} {M : zM} {Q : Int → zM → Prop} (l0 l2 : Int) (hi0 : zIs_0 l0) (hi2 : zIs_10 l2) (I2 : Nat → Int → zM → Prop) (I44 : Nat → Int → zM → Prop) (I70 : Nat → Int → zM → Prop)
    (h : ∃ n', I2 n' 0 M)
    (h2 : ∀ (n : Nat) (l3 : Int) (M : zM), I2 n l3 M → ((zR l3 ∧ zR (M 28 1)) ∧ (((M 28 1) ≤ l3 → ∃ n', n' < n ∧ I44 n' 1 M) ∧ (l3 < (M 28 1) → (0 ≤ l3 ∧ l3 < 832) ∧ (∀ M1, M1 = zup M (l0 + 1).toNat l3.toNat 0 → (zP E mX1_groundOf [.inr (.inr 28), .inl l3] M1 (fun r2 M3 => (0 ≤ l3 ∧ l3 < 832) ∧ (∀ M4, M4 = zup M3 (l0 + 2).toNat l3.toNat r2 → (0 ≤ l3 ∧ l3 < 64) ∧ (∀ M5, M5 = zup M4 (l0 + 3).toNat l3.toNat 13 → ∃ n', n' < n ∧ I2 n' (l3 + 1) M5)))))))))
    (h44 : ∀ (n : Nat) (l3 : Int) (M : zM), I44 n l3 M → ((zR l3) ∧ ((12 < l3 → (∀ M6, M6 = zup M l0.toNat 3 0 → ∃ n', n' < n ∧ I70 n' 0 M6)) ∧ (l3 ≤ 12 → (zP E mX0_stepOnce [.inr (.inr l0), .inr (.inr 28), .inr (.inr l2), .inl l3] M (fun r7 M8 => ∃ n', n' < n ∧ I44 n' (l3 + 1) M8))))))
    (h70 : ∀ (n : Nat) (l3 : Int) (M : zM), I70 n l3 M → ((zR l3 ∧ zR (M 28 1)) ∧ (((M 28 1) ≤ l3 → (∀ M9, M9 = zup M l0.toNat 4 1 → Q 0 M9)) ∧ (l3 < (M 28 1) → (0 ≤ l3 ∧ l3 < 64) ∧ ((zR (M (l0 + 3).toNat l3.toNat)) ∧ ((13 ≤ (M (l0 + 3).toNat l3.toNat) → (∀ M10, M10 = zup M l0.toNat 3 ((M l0.toNat 3) + 0) → ∃ n', n' < n ∧ I70 n' (l3 + 1) M10)) ∧ ((M (l0 + 3).toNat l3.toNat) < 13 → (0 ≤ l3 ∧ l3 < 64) ∧ (∀ M11, M11 = zup M l0.toNat 3 ((M l0.toNat 3) + (M 30 l3.toNat)) → ∃ n', n' < n ∧ I70 n' (l3 + 1) M11))))))))
    : zP E mX0_stepLava [.inr (.inr l0), .inr (.inr 28), .inr (.inr l2)] M Q := by
  have key : ∀ n : Nat, (∀ (l3 : Int) (M : zM), I2 n l3 M → zA E zNN (0, 0) mX0_stepLava 2 [(0, .inr (.inr l0)), (1, .inr (.inr 28)), (2, .inr (.inr l2)), (3, .inl l3)] [] M (zQ Q)) ∧ (∀ (l3 : Int) (M : zM), I44 n l3 M → zA E zNN (0, 0) mX0_stepLava 44 [(0, .inr (.inr l0)), (1, .inr (.inr 28)), (2, .inr (.inr l2)), (3, .inl l3)] [] M (zQ Q)) ∧ (∀ (l3 : Int) (M : zM), I70 n l3 M → zA E zNN (0, 0) mX0_stepLava 70 [(0, .inr (.inr l0)), (1, .inr (.inr 28)), (3, .inl l3)] [] M (zQ Q)) := by
    intro n
    induction n using Nat.strongRecOn with
    | ind n ih =>
      refine ⟨?_, ?_, ?_⟩
      · intro l3 M h
        have h := h2 n l3 M h
        refine zr_iload_n (pc' := 3) (i := 3) dX0_stepLava_2 rfl rfl rfl ?_
        refine zr_aload_n (pc' := 4) (i := 1) dX0_stepLava_3 rfl rfl rfl ?_
        refine zr_get (pc' := 7) dX0_stepLava_4 rfl ps_28 kd_28 fl_X0_42 kc_1 (gv_28_1 _) ?_
        refine zr_icmp_ge (tgt := 42) (pc' := 10) dX0_stepLava_7 rfl rfl h.1.1 h.1.2 (fun hc => ?_) (fun hc => ?_)
        · have h := h.2.1 hc
          refine zr_iconst (pc' := 43) dX0_stepLava_42 rfl ?_
          refine zr_istore_n (pc' := 44) (i := 3) (al' := [(3, .inl 1), (0, .inr (.inr l0)), (1, .inr (.inr 28)), (2, .inr (.inr l2))]) dX0_stepLava_43 rfl rfl (by decide) rfl ?_
          obtain ⟨n', hn, h⟩ := h
          exact zn_al ((ih n' hn).2.1 _ _ h) ⟨rfl, rfl, rfl, rfl, trivial⟩
        · have h := h.2.2 hc
          refine zr_aload_n (pc' := 11) (i := 0) dX0_stepLava_10 rfl rfl rfl ?_
          refine zr_get (pc' := 14) dX0_stepLava_11 rfl (is_0_pos hi0) (is_0_kd hi0) fl_X0_13 kc_0 (is_0_gv_0 hi0 _) ?_
          refine zr_iload_n (pc' := 15) (i := 3) dX0_stepLava_14 rfl rfl rfl ?_
          refine zr_iconst (pc' := 16) dX0_stepLava_15 rfl ?_
          refine zr_iast (pc' := 17) dX0_stepLava_16 rfl (is_0_kp_0 hi0) (is_0_ka_0 hi0) (by decide) h.1.1 h.1.2 (fun M1 hM1 => ?_)
          have h := h.2 M1 hM1
          refine zr_aload_n (pc' := 18) (i := 0) dX0_stepLava_17 rfl rfl rfl ?_
          refine zr_get (pc' := 21) dX0_stepLava_18 rfl (is_0_pos hi0) (is_0_kd hi0) fl_X0_17 kc_0 (is_0_gv_1 hi0 _) ?_
          refine zr_iload_n (pc' := 22) (i := 3) dX0_stepLava_21 rfl rfl rfl ?_
          refine zr_aload_n (pc' := 23) (i := 1) dX0_stepLava_22 rfl rfl rfl ?_
          refine zr_iload_n (pc' := 24) (i := 3) dX0_stepLava_23 rfl rfl rfl ?_
          refine zn_callV (pc' := 27) (args := [.inl l3]) (st := [.inl l3, .inr (.inr (l0 + 2))]) (st' := fun r2 => [.inl r2, .inl l3, .inr (.inr (l0 + 2))]) dX0_stepLava_24 rfl cv_X0_46 ⟨rfl, rfl, by decide, by decide⟩ rfl ps_28 kd_28 rfl rfl (Nat.le_of_ble_eq_true rfl) (fun _ => rfl) h ?_
          intro r2 M3 h
          refine zr_iast (pc' := 28) dX0_stepLava_27 rfl (is_0_kp_1 hi0) (is_0_ka_1 hi0) (by decide) h.1.1 h.1.2 (fun M4 hM1 => ?_)
          have h := h.2 M4 hM1
          refine zr_aload_n (pc' := 29) (i := 0) dX0_stepLava_28 rfl rfl rfl ?_
          refine zr_get (pc' := 32) dX0_stepLava_29 rfl (is_0_pos hi0) (is_0_kd hi0) fl_X0_20 kc_0 (is_0_gv_2 hi0 _) ?_
          refine zr_iload_n (pc' := 33) (i := 3) dX0_stepLava_32 rfl rfl rfl ?_
          refine zr_bipush (pc' := 35) dX0_stepLava_33 rfl rfl ?_
          refine zr_iast (pc' := 36) dX0_stepLava_35 rfl (is_0_kp_2 hi0) (is_0_ka_2 hi0) (by decide) h.1.1 h.1.2 (fun M5 hM1 => ?_)
          have h := h.2 M5 hM1
          refine zr_iinc (pc' := 39) (al' := [(3, .inl (l3 + 1)), (0, .inr (.inr l0)), (1, .inr (.inr 28)), (2, .inr (.inr l2))]) dX0_stepLava_36 rfl rfl (by decide) rfl ?_
          refine zr_goto (pc' := 2) dX0_stepLava_39 rfl ?_
          obtain ⟨n', hn, h⟩ := h
          exact zn_al ((ih n' hn).1 _ _ h) ⟨rfl, rfl, rfl, rfl, trivial⟩
      · intro l3 M h
        have h := h44 n l3 M h
        refine zr_iload_n (pc' := 45) (i := 3) dX0_stepLava_44 rfl rfl rfl ?_
        refine zr_bipush (pc' := 47) dX0_stepLava_45 rfl rfl ?_
        refine zr_icmp_gt (tgt := 63) (pc' := 50) dX0_stepLava_47 rfl rfl h.1 (zRd rfl) (fun hc => ?_) (fun hc => ?_)
        · have h := h.2.1 hc
          refine zr_aload_n (pc' := 64) (i := 0) dX0_stepLava_63 rfl rfl rfl ?_
          refine zr_iconst (pc' := 65) dX0_stepLava_64 rfl ?_
          refine zr_put (pc' := 68) dX0_stepLava_65 rfl (is_0_pos hi0) (is_0_kd hi0) fl_X0_54 kc_0 rfl (is_0_nf_3 hi0) rfl trivial (fun M6 hM1 => ?_)
          have h := h M6 hM1
          refine zr_iconst (pc' := 69) dX0_stepLava_68 rfl ?_
          refine zr_istore_n (pc' := 70) (i := 3) (al' := [(3, .inl 0), (0, .inr (.inr l0)), (1, .inr (.inr 28)), (2, .inr (.inr l2))]) dX0_stepLava_69 rfl rfl (by decide) rfl ?_
          obtain ⟨n', hn, h⟩ := h
          exact zn_al ((ih n' hn).2.2 _ _ h) ⟨rfl, rfl, rfl, trivial⟩
        · have h := h.2.2 hc
          refine zr_aload_n (pc' := 51) (i := 0) dX0_stepLava_50 rfl rfl rfl ?_
          refine zr_aload_n (pc' := 52) (i := 1) dX0_stepLava_51 rfl rfl rfl ?_
          refine zr_aload_n (pc' := 53) (i := 2) dX0_stepLava_52 rfl rfl rfl ?_
          refine zr_iload_n (pc' := 54) (i := 3) dX0_stepLava_53 rfl rfl rfl ?_
          refine zn_callV (pc' := 57) (args := [.inr (.inr 28), .inr (.inr l2), .inl l3]) (st := []) (st' := fun _ => []) dX0_stepLava_54 rfl cv_X0_50 ⟨rfl, rfl, by decide, by decide⟩ rfl (is_0_pos hi0) (is_0_kd hi0) rfl rfl (Nat.le_of_ble_eq_true rfl) (fun _ => rfl) h ?_
          intro r7 M8 h
          refine zr_iinc (pc' := 60) (al' := [(3, .inl (l3 + 1)), (0, .inr (.inr l0)), (1, .inr (.inr 28)), (2, .inr (.inr l2))]) dX0_stepLava_57 rfl rfl (by decide) rfl ?_
          refine zr_goto (pc' := 44) dX0_stepLava_60 rfl ?_
          obtain ⟨n', hn, h⟩ := h
          exact zn_al ((ih n' hn).2.1 _ _ h) ⟨rfl, rfl, rfl, rfl, trivial⟩
      · intro l3 M h
        have h := h70 n l3 M h
        refine zr_iload_n (pc' := 71) (i := 3) dX0_stepLava_70 rfl rfl rfl ?_
        refine zr_aload_n (pc' := 72) (i := 1) dX0_stepLava_71 rfl rfl rfl ?_
        refine zr_get (pc' := 75) dX0_stepLava_72 rfl ps_28 kd_28 fl_X0_42 kc_1 (gv_28_1 _) ?_
        refine zr_icmp_ge (tgt := 114) (pc' := 78) dX0_stepLava_75 rfl rfl h.1.1 h.1.2 (fun hc => ?_) (fun hc => ?_)
        · have h := h.2.1 hc
          refine zr_aload_n (pc' := 115) (i := 0) dX0_stepLava_114 rfl rfl rfl ?_
          refine zr_iconst (pc' := 116) dX0_stepLava_115 rfl ?_
          refine zr_put (pc' := 119) dX0_stepLava_116 rfl (is_0_pos hi0) (is_0_kd hi0) fl_X0_60 kc_0 rfl (is_0_nf_4 hi0) rfl (Or.inr rfl) (fun M9 hM1 => ?_)
          have h := h M9 hM1
          exact zr_return (x := 0) dX0_stepLava_119 rfl (Nat.le_refl _) (Nat.le_refl _) (And.intro rfl h)
        · have h := h.2.2 hc
          refine zr_aload_n (pc' := 79) (i := 0) dX0_stepLava_78 rfl rfl rfl ?_
          refine zr_dup (pc' := 80) dX0_stepLava_79 rfl rfl ?_
          refine zr_get (pc' := 83) dX0_stepLava_80 rfl (is_0_pos hi0) (is_0_kd hi0) fl_X0_54 kc_0 (is_0_gv_3 hi0 _) ?_
          refine zr_aload_n (pc' := 84) (i := 0) dX0_stepLava_83 rfl rfl rfl ?_
          refine zr_get (pc' := 87) dX0_stepLava_84 rfl (is_0_pos hi0) (is_0_kd hi0) fl_X0_20 kc_0 (is_0_gv_2 hi0 _) ?_
          refine zr_iload_n (pc' := 88) (i := 3) dX0_stepLava_87 rfl rfl rfl ?_
          refine zr_iald (pc' := 89) dX0_stepLava_88 rfl (is_0_kp_2 hi0) (is_0_ka_2 hi0) (by decide) h.1.1 h.1.2 ?_
          have h := h.2
          refine zr_bipush (pc' := 91) dX0_stepLava_89 rfl rfl ?_
          refine zr_icmp_ge (tgt := 103) (pc' := 94) dX0_stepLava_91 rfl rfl h.1 (zRd rfl) (fun hc => ?_) (fun hc => ?_)
          · have h := h.2.1 hc
            refine zr_iconst (pc' := 104) dX0_stepLava_103 rfl ?_
            refine zr_iadd (pc' := 105) dX0_stepLava_104 rfl ?_
            refine zr_put (pc' := 108) dX0_stepLava_105 rfl (is_0_pos hi0) (is_0_kd hi0) fl_X0_54 kc_0 rfl (is_0_nf_3 hi0) rfl trivial (fun M10 hM1 => ?_)
            have h := h M10 hM1
            refine zr_iinc (pc' := 111) (al' := [(3, .inl (l3 + 1)), (0, .inr (.inr l0)), (1, .inr (.inr 28))]) dX0_stepLava_108 rfl rfl (by decide) rfl ?_
            refine zr_goto (pc' := 70) dX0_stepLava_111 rfl ?_
            obtain ⟨n', hn, h⟩ := h
            exact zn_al ((ih n' hn).2.2 _ _ h) ⟨rfl, rfl, rfl, trivial⟩
          · have h := h.2.2 hc
            refine zr_aload_n (pc' := 95) (i := 1) dX0_stepLava_94 rfl rfl rfl ?_
            refine zr_get (pc' := 98) dX0_stepLava_95 rfl ps_28 kd_28 fl_X0_57 kc_1 (gv_28_3 _) ?_
            refine zr_iload_n (pc' := 99) (i := 3) dX0_stepLava_98 rfl rfl rfl ?_
            refine zr_iald (pc' := 100) dX0_stepLava_99 rfl ps_30 kd_30 (by decide) h.1.1 h.1.2 ?_
            have h := h.2
            refine zr_goto (pc' := 104) dX0_stepLava_100 rfl ?_
            refine zr_iadd (pc' := 105) dX0_stepLava_104 rfl ?_
            refine zr_put (pc' := 108) dX0_stepLava_105 rfl (is_0_pos hi0) (is_0_kd hi0) fl_X0_54 kc_0 rfl (is_0_nf_3 hi0) rfl trivial (fun M11 hM1 => ?_)
            have h := h M11 hM1
            refine zr_iinc (pc' := 111) (al' := [(3, .inl (l3 + 1)), (0, .inr (.inr l0)), (1, .inr (.inr 28))]) dX0_stepLava_108 rfl rfl (by decide) rfl ?_
            refine zr_goto (pc' := 70) dX0_stepLava_111 rfl ?_
            obtain ⟨n', hn, h⟩ := h
            exact zn_al ((ih n' hn).2.2 _ _ h) ⟨rfl, rfl, rfl, trivial⟩
  refine zP_of (by decide +kernel) rfl (Nat.le_of_ble_eq_true rfl) ?_
  show zA E zNN (0, 0) mX0_stepLava 0 [(0, .inr (.inr l0)), (1, .inr (.inr 28)), (2, .inr (.inr l2))] [] M (zQ Q)
  refine zr_iconst (pc' := 1) dX0_stepLava_0 rfl ?_
  refine zr_istore_n (pc' := 2) (i := 3) (al' := [(3, .inl 0), (0, .inr (.inr l0)), (1, .inr (.inr 28)), (2, .inr (.inr l2))]) dX0_stepLava_1 rfl rfl (by decide) rfl ?_
  obtain ⟨n', h⟩ := h
  exact zn_al ((key n').1 _ _ h) ⟨rfl, rfl, rfl, rfl, trivial⟩
set_option maxRecDepth 20000 in
theorem vcX0_stepOnce {E : zE} {M : zM} {Q : Int → zM → Prop} (l0 l2 l3 : Int) (hi0 : zIs_0 l0) (hi2 : zIs_10 l2) (I116 : Nat → Int → Int → Int → zM → Prop) (I162 : Nat → Int → Int → Int → zM → Prop) (I216 : Nat → Int → Int → Int → zM → Prop)
    (h : ((0 : Int) ≤ ((l3 * 64) - 64) ∧ (0 : Int) ≤ (l3 * 64) ∧ (0 : Int) ≤ (M 28 1) ∧ (((l3 * 64) - 64) + (M 28 1) : Int) ≤ 832 ∧ ((l3 * 64) + (M 28 1) : Int) ≤ 832) ∧ (∀ M1, M1 = zcopy M (l0 + 1).toNat (((l3 * 64) - 64).toNat) (l0 + 1).toNat ((l3 * 64).toNat) ((M 28 1).toNat) → ((0 : Int) ≤ ((l3 * 64) - 64) ∧ (0 : Int) ≤ (l3 * 64) ∧ (0 : Int) ≤ (M1 28 1) ∧ (((l3 * 64) - 64) + (M1 28 1) : Int) ≤ 832 ∧ ((l3 * 64) + (M1 28 1) : Int) ≤ 832) ∧ (∀ M2, M2 = zcopy M1 (l0 + 2).toNat (((l3 * 64) - 64).toNat) (l0 + 2).toNat ((l3 * 64).toNat) ((M1 28 1).toNat) → (∀ M3, M3 = zfill M2 (l0 + 5).toNat 64 0 → (∀ M4, M4 = zfill M3 (l0 + 6).toNat 64 0 → ((zR l3 ∧ zR (M4 l2.toNat 3)) ∧ (((M4 l2.toNat 3) < l3 → ∃ n', I116 n' l3 (l3 * 64) 0 M4) ∧ (l3 ≤ (M4 l2.toNat 3) → (0 ≤ (l3 * 64) + (M4 l2.toNat 1) ∧ (l3 * 64) + (M4 l2.toNat 1) < 832) ∧ (0 ≤ (l3 * 64) + (M4 l2.toNat 1) ∧ (l3 * 64) + (M4 l2.toNat 1) < 832) ∧ (∀ M5, M5 = zup M4 (l0 + 1).toNat (((l3 * 64) + (M4 l2.toNat 1)).toNat) ((M4 (l0 + 1).toNat (((l3 * 64) + (M4 l2.toNat 1)).toNat)) + (M4 l2.toNat 2)) → (0 ≤ M5 l2.toNat 1 ∧ M5 l2.toNat 1 < 64) ∧ (∀ M6, M6 = zup M5 (l0 + 6).toNat ((M5 l2.toNat 1).toNat) 1 → (0 ≤ M6 l2.toNat 1 ∧ M6 l2.toNat 1 < 64) ∧ (∀ M7, M7 = zup M6 (l0 + 3).toNat ((M6 l2.toNat 1).toNat) 1 → ∃ n', I116 n' l3 (l3 * 64) 0 M7)))))))))))
    (h116 : ∀ (n : Nat) (l3 l4 l5 : Int) (M : zM), I116 n l3 l4 l5 M → ((zR l5 ∧ zR (M 28 1)) ∧ (((M 28 1) ≤ l5 → ∃ n', n' < n ∧ I162 n' l3 l4 0 M) ∧ (l5 < (M 28 1) → (0 ≤ l4 + l5 ∧ l4 + l5 < 832) ∧ (0 ≤ l4 + l5 ∧ l4 + l5 < 832) ∧ (0 ≤ l5 ∧ l5 < 64) ∧ (∀ M8, M8 = zup M (l0 + 4).toNat l5.toNat ((M (l0 + 2).toNat ((l4 + l5).toNat)) + (M (l0 + 1).toNat ((l4 + l5).toNat))) → ∃ n', n' < n ∧ I116 n' l3 l4 (l5 + 1) M8)))))
    (h162 : ∀ (n : Nat) (l3 l4 l5 : Int) (M : zM), I162 n l3 l4 l5 M → ((zR l5 ∧ zR (M 28 1)) ∧ (((M 28 1) ≤ l5 → ∃ n', n' < n ∧ I216 n' l3 l4 0 M) ∧ (l5 < (M 28 1) → (0 ≤ l4 + l5 ∧ l4 + l5 < 832) ∧ ((zR (M (l0 + 1).toNat ((l4 + l5).toNat))) ∧ (((M (l0 + 1).toNat ((l4 + l5).toNat)) ≤ 0 → ∃ n', n' < n ∧ I162 n' l3 l4 (l5 + 1) M) ∧ (0 < (M (l0 + 1).toNat ((l4 + l5).toNat)) → (zP E mX0_lowestBeside [.inr (.inr l0), .inr (.inr 28), .inl l5] M (fun r9 M10 => (0 ≤ l4 + l5 ∧ l4 + l5 < 832) ∧ (zP E mX0_give [.inr (.inr l0), .inl l5, .inl r9, .inl (M10 (l0 + 1).toNat ((l4 + l5).toNat))] M10 (fun r11 M12 => ∃ n', n' < n ∧ I162 n' l3 l4 (l5 + 1) M12)))))))))))
    (h216 : ∀ (n : Nat) (l3 l4 l5 : Int) (M : zM), I216 n l3 l4 l5 M → ((zR l5 ∧ zR (M 28 1)) ∧ (((M 28 1) ≤ l5 → Q 0 M) ∧ (l5 < (M 28 1) → (0 ≤ l4 + l5 ∧ l4 + l5 < 832) ∧ (0 ≤ l5 ∧ l5 < 64) ∧ (0 ≤ l4 + l5 ∧ l4 + l5 < 832) ∧ (∀ M13, M13 = zup M (l0 + 1).toNat ((l4 + l5).toNat) ((M (l0 + 1).toNat ((l4 + l5).toNat)) + (M (l0 + 5).toNat l5.toNat)) → (0 ≤ l4 + l5 ∧ l4 + l5 < 832) ∧ ((zR (M13 (l0 + 1).toNat ((l4 + l5).toNat))) ∧ (((M13 (l0 + 1).toNat ((l4 + l5).toNat)) ≤ 0 → ∃ n', n' < n ∧ I216 n' l3 l4 (l5 + 1) M13) ∧ (0 < (M13 (l0 + 1).toNat ((l4 + l5).toNat)) → (zP E mX0_rest [.inr (.inr l0), .inl l4, .inl l5, .inl l3] M13 (fun r14 M15 => ∃ n', n' < n ∧ I216 n' l3 l4 (l5 + 1) M15))))))))))
    : zP E mX0_stepOnce [.inr (.inr l0), .inr (.inr 28), .inr (.inr l2), .inl l3] M Q := by
  have key : ∀ n : Nat, (∀ (l3 l4 l5 : Int) (M : zM), I116 n l3 l4 l5 M → zA E zNN (0, 0) mX0_stepOnce 116 [(0, .inr (.inr l0)), (1, .inr (.inr 28)), (3, .inl l3), (4, .inl l4), (5, .inl l5)] [] M (zQ Q)) ∧ (∀ (l3 l4 l5 : Int) (M : zM), I162 n l3 l4 l5 M → zA E zNN (0, 0) mX0_stepOnce 162 [(0, .inr (.inr l0)), (1, .inr (.inr 28)), (3, .inl l3), (4, .inl l4), (5, .inl l5)] [] M (zQ Q)) ∧ (∀ (l3 l4 l5 : Int) (M : zM), I216 n l3 l4 l5 M → zA E zNN (0, 0) mX0_stepOnce 216 [(0, .inr (.inr l0)), (1, .inr (.inr 28)), (3, .inl l3), (4, .inl l4), (5, .inl l5)] [] M (zQ Q)) := by
    intro n
    induction n using Nat.strongRecOn with
    | ind n ih =>
      refine ⟨?_, ?_, ?_⟩
      · intro l3 l4 l5 M h
        have h := h116 n l3 l4 l5 M h
        refine zr_iload (pc' := 118) dX0_stepOnce_116 rfl rfl ?_
        refine zr_aload_n (pc' := 119) (i := 1) dX0_stepOnce_118 rfl rfl rfl ?_
        refine zr_get (pc' := 122) dX0_stepOnce_119 rfl ps_28 kd_28 fl_X0_42 kc_1 (gv_28_1 _) ?_
        refine zr_icmp_ge (tgt := 159) (pc' := 125) dX0_stepOnce_122 rfl rfl h.1.1 h.1.2 (fun hc => ?_) (fun hc => ?_)
        · have h := h.2.1 hc
          refine zr_iconst (pc' := 160) dX0_stepOnce_159 rfl ?_
          refine zr_istore (pc' := 162) (al' := [(5, .inl 0), (0, .inr (.inr l0)), (1, .inr (.inr 28)), (3, .inl l3), (4, .inl l4)]) dX0_stepOnce_160 rfl (by decide) rfl ?_
          obtain ⟨n', hn, h⟩ := h
          exact zn_al ((ih n' hn).2.1 _ _ _ _ h) ⟨rfl, rfl, rfl, rfl, rfl, trivial⟩
        · have h := h.2.2 hc
          refine zr_aload_n (pc' := 126) (i := 0) dX0_stepOnce_125 rfl rfl rfl ?_
          refine zr_get (pc' := 129) dX0_stepOnce_126 rfl (is_0_pos hi0) (is_0_kd hi0) fl_X0_23 kc_0 (is_0_gv_5 hi0 _) ?_
          refine zr_iload (pc' := 131) dX0_stepOnce_129 rfl rfl ?_
          refine zr_aload_n (pc' := 132) (i := 0) dX0_stepOnce_131 rfl rfl rfl ?_
          refine zr_get (pc' := 135) dX0_stepOnce_132 rfl (is_0_pos hi0) (is_0_kd hi0) fl_X0_17 kc_0 (is_0_gv_1 hi0 _) ?_
          refine zr_iload (pc' := 137) dX0_stepOnce_135 rfl rfl ?_
          refine zr_iload (pc' := 139) dX0_stepOnce_137 rfl rfl ?_
          refine zr_iadd (pc' := 140) dX0_stepOnce_139 rfl ?_
          refine zr_iald (pc' := 141) dX0_stepOnce_140 rfl (is_0_kp_1 hi0) (is_0_ka_1 hi0) (by decide) h.1.1 h.1.2 ?_
          have h := h.2
          refine zr_aload_n (pc' := 142) (i := 0) dX0_stepOnce_141 rfl rfl rfl ?_
          refine zr_get (pc' := 145) dX0_stepOnce_142 rfl (is_0_pos hi0) (is_0_kd hi0) fl_X0_13 kc_0 (is_0_gv_0 hi0 _) ?_
          refine zr_iload (pc' := 147) dX0_stepOnce_145 rfl rfl ?_
          refine zr_iload (pc' := 149) dX0_stepOnce_147 rfl rfl ?_
          refine zr_iadd (pc' := 150) dX0_stepOnce_149 rfl ?_
          refine zr_iald (pc' := 151) dX0_stepOnce_150 rfl (is_0_kp_0 hi0) (is_0_ka_0 hi0) (by decide) h.1.1 h.1.2 ?_
          have h := h.2
          refine zr_iadd (pc' := 152) dX0_stepOnce_151 rfl ?_
          refine zr_iast (pc' := 153) dX0_stepOnce_152 rfl (is_0_kp_5 hi0) (is_0_ka_5 hi0) (by decide) h.1.1 h.1.2 (fun M8 hM1 => ?_)
          have h := h.2 M8 hM1
          refine zr_iinc (pc' := 156) (al' := [(5, .inl (l5 + 1)), (0, .inr (.inr l0)), (1, .inr (.inr 28)), (3, .inl l3), (4, .inl l4)]) dX0_stepOnce_153 rfl rfl (by decide) rfl ?_
          refine zr_goto (pc' := 116) dX0_stepOnce_156 rfl ?_
          obtain ⟨n', hn, h⟩ := h
          exact zn_al ((ih n' hn).1 _ _ _ _ h) ⟨rfl, rfl, rfl, rfl, rfl, trivial⟩
      · intro l3 l4 l5 M h
        have h := h162 n l3 l4 l5 M h
        refine zr_iload (pc' := 164) dX0_stepOnce_162 rfl rfl ?_
        refine zr_aload_n (pc' := 165) (i := 1) dX0_stepOnce_164 rfl rfl rfl ?_
        refine zr_get (pc' := 168) dX0_stepOnce_165 rfl ps_28 kd_28 fl_X0_42 kc_1 (gv_28_1 _) ?_
        refine zr_icmp_ge (tgt := 213) (pc' := 171) dX0_stepOnce_168 rfl rfl h.1.1 h.1.2 (fun hc => ?_) (fun hc => ?_)
        · have h := h.2.1 hc
          refine zr_iconst (pc' := 214) dX0_stepOnce_213 rfl ?_
          refine zr_istore (pc' := 216) (al' := [(5, .inl 0), (0, .inr (.inr l0)), (1, .inr (.inr 28)), (3, .inl l3), (4, .inl l4)]) dX0_stepOnce_214 rfl (by decide) rfl ?_
          obtain ⟨n', hn, h⟩ := h
          exact zn_al ((ih n' hn).2.2 _ _ _ _ h) ⟨rfl, rfl, rfl, rfl, rfl, trivial⟩
        · have h := h.2.2 hc
          refine zr_aload_n (pc' := 172) (i := 0) dX0_stepOnce_171 rfl rfl rfl ?_
          refine zr_get (pc' := 175) dX0_stepOnce_172 rfl (is_0_pos hi0) (is_0_kd hi0) fl_X0_13 kc_0 (is_0_gv_0 hi0 _) ?_
          refine zr_iload (pc' := 177) dX0_stepOnce_175 rfl rfl ?_
          refine zr_iload (pc' := 179) dX0_stepOnce_177 rfl rfl ?_
          refine zr_iadd (pc' := 180) dX0_stepOnce_179 rfl ?_
          refine zr_iald (pc' := 181) dX0_stepOnce_180 rfl (is_0_kp_0 hi0) (is_0_ka_0 hi0) (by decide) h.1.1 h.1.2 ?_
          have h := h.2
          refine zr_if_le (tgt := 207) (pc' := 184) dX0_stepOnce_181 rfl rfl h.1 (fun hc => ?_) (fun hc => ?_)
          · have h := h.2.1 hc
            refine zr_iinc (pc' := 210) (al' := [(5, .inl (l5 + 1)), (0, .inr (.inr l0)), (1, .inr (.inr 28)), (3, .inl l3), (4, .inl l4)]) dX0_stepOnce_207 rfl rfl (by decide) rfl ?_
            refine zr_goto (pc' := 162) dX0_stepOnce_210 rfl ?_
            obtain ⟨n', hn, h⟩ := h
            exact zn_al ((ih n' hn).2.1 _ _ _ _ h) ⟨rfl, rfl, rfl, rfl, rfl, trivial⟩
          · have h := h.2.2 hc
            refine zr_aload_n (pc' := 185) (i := 0) dX0_stepOnce_184 rfl rfl rfl ?_
            refine zr_iload (pc' := 187) dX0_stepOnce_185 rfl rfl ?_
            refine zr_aload_n (pc' := 188) (i := 0) dX0_stepOnce_187 rfl rfl rfl ?_
            refine zr_aload_n (pc' := 189) (i := 1) dX0_stepOnce_188 rfl rfl rfl ?_
            refine zr_iload (pc' := 191) dX0_stepOnce_189 rfl rfl ?_
            refine zn_callV (pc' := 194) (args := [.inr (.inr 28), .inl l5]) (st := [.inl l5, .inr (.inr l0)]) (st' := fun r9 => [.inl r9, .inl l5, .inr (.inr l0)]) dX0_stepOnce_191 rfl cv_X0_87 ⟨rfl, rfl, by decide, by decide⟩ rfl (is_0_pos hi0) (is_0_kd hi0) rfl rfl (Nat.le_of_ble_eq_true rfl) (fun _ => rfl) h ?_
            intro r9 M10 h
            refine zr_aload_n (pc' := 195) (i := 0) dX0_stepOnce_194 rfl rfl rfl ?_
            refine zr_get (pc' := 198) dX0_stepOnce_195 rfl (is_0_pos hi0) (is_0_kd hi0) fl_X0_13 kc_0 (is_0_gv_0 hi0 _) ?_
            refine zr_iload (pc' := 200) dX0_stepOnce_198 rfl rfl ?_
            refine zr_iload (pc' := 202) dX0_stepOnce_200 rfl rfl ?_
            refine zr_iadd (pc' := 203) dX0_stepOnce_202 rfl ?_
            refine zr_iald (pc' := 204) dX0_stepOnce_203 rfl (is_0_kp_0 hi0) (is_0_ka_0 hi0) (by decide) h.1.1 h.1.2 ?_
            have h := h.2
            refine zn_callV (pc' := 207) (args := [.inl l5, .inl r9, .inl (M10 (l0 + 1).toNat ((l4 + l5).toNat))]) (st := []) (st' := fun _ => []) dX0_stepOnce_204 rfl cv_X0_91 ⟨rfl, rfl, by decide, by decide⟩ rfl (is_0_pos hi0) (is_0_kd hi0) rfl rfl (Nat.le_of_ble_eq_true rfl) (fun _ => rfl) h ?_
            intro r11 M12 h
            refine zr_iinc (pc' := 210) (al' := [(5, .inl (l5 + 1)), (0, .inr (.inr l0)), (1, .inr (.inr 28)), (3, .inl l3), (4, .inl l4)]) dX0_stepOnce_207 rfl rfl (by decide) rfl ?_
            refine zr_goto (pc' := 162) dX0_stepOnce_210 rfl ?_
            obtain ⟨n', hn, h⟩ := h
            exact zn_al ((ih n' hn).2.1 _ _ _ _ h) ⟨rfl, rfl, rfl, rfl, rfl, trivial⟩
      · intro l3 l4 l5 M h
        have h := h216 n l3 l4 l5 M h
        refine zr_iload (pc' := 218) dX0_stepOnce_216 rfl rfl ?_
        refine zr_aload_n (pc' := 219) (i := 1) dX0_stepOnce_218 rfl rfl rfl ?_
        refine zr_get (pc' := 222) dX0_stepOnce_219 rfl ps_28 kd_28 fl_X0_42 kc_1 (gv_28_1 _) ?_
        refine zr_icmp_ge (tgt := 273) (pc' := 225) dX0_stepOnce_222 rfl rfl h.1.1 h.1.2 (fun hc => ?_) (fun hc => ?_)
        · have h := h.2.1 hc
          exact zr_return (x := 0) dX0_stepOnce_273 rfl (Nat.le_refl _) (Nat.le_refl _) (And.intro rfl h)
        · have h := h.2.2 hc
          refine zr_aload_n (pc' := 226) (i := 0) dX0_stepOnce_225 rfl rfl rfl ?_
          refine zr_get (pc' := 229) dX0_stepOnce_226 rfl (is_0_pos hi0) (is_0_kd hi0) fl_X0_13 kc_0 (is_0_gv_0 hi0 _) ?_
          refine zr_iload (pc' := 231) dX0_stepOnce_229 rfl rfl ?_
          refine zr_iload (pc' := 233) dX0_stepOnce_231 rfl rfl ?_
          refine zr_iadd (pc' := 234) dX0_stepOnce_233 rfl ?_
          refine zr_dup2 (pc' := 235) dX0_stepOnce_234 rfl rfl rfl ?_
          refine zr_iald (pc' := 236) dX0_stepOnce_235 rfl (is_0_kp_0 hi0) (is_0_ka_0 hi0) (by decide) h.1.1 h.1.2 ?_
          have h := h.2
          refine zr_aload_n (pc' := 237) (i := 0) dX0_stepOnce_236 rfl rfl rfl ?_
          refine zr_get (pc' := 240) dX0_stepOnce_237 rfl (is_0_pos hi0) (is_0_kd hi0) fl_X0_26 kc_0 (is_0_gv_6 hi0 _) ?_
          refine zr_iload (pc' := 242) dX0_stepOnce_240 rfl rfl ?_
          refine zr_iald (pc' := 243) dX0_stepOnce_242 rfl (is_0_kp_6 hi0) (is_0_ka_6 hi0) (by decide) h.1.1 h.1.2 ?_
          have h := h.2
          refine zr_iadd (pc' := 244) dX0_stepOnce_243 rfl ?_
          refine zr_iast (pc' := 245) dX0_stepOnce_244 rfl (is_0_kp_0 hi0) (is_0_ka_0 hi0) (by decide) h.1.1 h.1.2 (fun M13 hM1 => ?_)
          have h := h.2 M13 hM1
          refine zr_aload_n (pc' := 246) (i := 0) dX0_stepOnce_245 rfl rfl rfl ?_
          refine zr_get (pc' := 249) dX0_stepOnce_246 rfl (is_0_pos hi0) (is_0_kd hi0) fl_X0_13 kc_0 (is_0_gv_0 hi0 _) ?_
          refine zr_iload (pc' := 251) dX0_stepOnce_249 rfl rfl ?_
          refine zr_iload (pc' := 253) dX0_stepOnce_251 rfl rfl ?_
          refine zr_iadd (pc' := 254) dX0_stepOnce_253 rfl ?_
          refine zr_iald (pc' := 255) dX0_stepOnce_254 rfl (is_0_kp_0 hi0) (is_0_ka_0 hi0) (by decide) h.1.1 h.1.2 ?_
          have h := h.2
          refine zr_if_le (tgt := 267) (pc' := 258) dX0_stepOnce_255 rfl rfl h.1 (fun hc => ?_) (fun hc => ?_)
          · have h := h.2.1 hc
            refine zr_iinc (pc' := 270) (al' := [(5, .inl (l5 + 1)), (0, .inr (.inr l0)), (1, .inr (.inr 28)), (3, .inl l3), (4, .inl l4)]) dX0_stepOnce_267 rfl rfl (by decide) rfl ?_
            refine zr_goto (pc' := 216) dX0_stepOnce_270 rfl ?_
            obtain ⟨n', hn, h⟩ := h
            exact zn_al ((ih n' hn).2.2 _ _ _ _ h) ⟨rfl, rfl, rfl, rfl, rfl, trivial⟩
          · have h := h.2.2 hc
            refine zr_aload_n (pc' := 259) (i := 0) dX0_stepOnce_258 rfl rfl rfl ?_
            refine zr_iload (pc' := 261) dX0_stepOnce_259 rfl rfl ?_
            refine zr_iload (pc' := 263) dX0_stepOnce_261 rfl rfl ?_
            refine zr_iload_n (pc' := 264) (i := 3) dX0_stepOnce_263 rfl rfl rfl ?_
            refine zn_callV (pc' := 267) (args := [.inl l4, .inl l5, .inl l3]) (st := []) (st' := fun _ => []) dX0_stepOnce_264 rfl cv_X0_95 ⟨rfl, rfl, by decide, by decide⟩ rfl (is_0_pos hi0) (is_0_kd hi0) rfl rfl (Nat.le_of_ble_eq_true rfl) (fun _ => rfl) h ?_
            intro r14 M15 h
            refine zr_iinc (pc' := 270) (al' := [(5, .inl (l5 + 1)), (0, .inr (.inr l0)), (1, .inr (.inr 28)), (3, .inl l3), (4, .inl l4)]) dX0_stepOnce_267 rfl rfl (by decide) rfl ?_
            refine zr_goto (pc' := 216) dX0_stepOnce_270 rfl ?_
            obtain ⟨n', hn, h⟩ := h
            exact zn_al ((ih n' hn).2.2 _ _ _ _ h) ⟨rfl, rfl, rfl, rfl, rfl, trivial⟩
  refine zP_of (by decide +kernel) rfl (Nat.le_of_ble_eq_true rfl) ?_
  show zA E zNN (0, 0) mX0_stepOnce 0 [(0, .inr (.inr l0)), (1, .inr (.inr 28)), (2, .inr (.inr l2)), (3, .inl l3)] [] M (zQ Q)
  refine zr_iload_n (pc' := 1) (i := 3) dX0_stepOnce_0 rfl rfl rfl ?_
  refine zr_bipush (pc' := 3) dX0_stepOnce_1 rfl rfl ?_
  refine zr_imul (pc' := 4) dX0_stepOnce_3 rfl ?_
  refine zr_istore (pc' := 6) (al' := [(4, .inl (l3 * 64)), (0, .inr (.inr l0)), (1, .inr (.inr 28)), (2, .inr (.inr l2)), (3, .inl l3)]) dX0_stepOnce_4 rfl (by decide) rfl ?_
  refine zr_aload_n (pc' := 7) (i := 0) dX0_stepOnce_6 rfl rfl rfl ?_
  refine zr_get (pc' := 10) dX0_stepOnce_7 rfl (is_0_pos hi0) (is_0_kd hi0) fl_X0_13 kc_0 (is_0_gv_0 hi0 _) ?_
  refine zr_iload (pc' := 12) dX0_stepOnce_10 rfl rfl ?_
  refine zr_bipush (pc' := 14) dX0_stepOnce_12 rfl rfl ?_
  refine zr_isub (pc' := 15) dX0_stepOnce_14 rfl ?_
  refine zr_aload_n (pc' := 16) (i := 0) dX0_stepOnce_15 rfl rfl rfl ?_
  refine zr_get (pc' := 19) dX0_stepOnce_16 rfl (is_0_pos hi0) (is_0_kd hi0) fl_X0_13 kc_0 (is_0_gv_0 hi0 _) ?_
  refine zr_iload (pc' := 21) dX0_stepOnce_19 rfl rfl ?_
  refine zr_aload_n (pc' := 22) (i := 1) dX0_stepOnce_21 rfl rfl rfl ?_
  refine zr_get (pc' := 25) dX0_stepOnce_22 rfl ps_28 kd_28 fl_X0_42 kc_1 (gv_28_1 _) ?_
  refine zr_copy (pc' := 28) dX0_stepOnce_25 rfl (is_0_kp_0 hi0) (is_0_ka_0 hi0) (is_0_kp_0 hi0) (is_0_ka_0 hi0) (by decide) (by decide) ac_X0_64 (by decide) (Nat.le_of_ble_eq_true rfl) h.1.1 h.1.2.1 h.1.2.2.1 h.1.2.2.2.1 h.1.2.2.2.2 (fun M1 hM1 => ?_)
  have h := h.2 M1 hM1
  refine zr_aload_n (pc' := 29) (i := 0) dX0_stepOnce_28 rfl rfl rfl ?_
  refine zr_get (pc' := 32) dX0_stepOnce_29 rfl (is_0_pos hi0) (is_0_kd hi0) fl_X0_17 kc_0 (is_0_gv_1 hi0 _) ?_
  refine zr_iload (pc' := 34) dX0_stepOnce_32 rfl rfl ?_
  refine zr_bipush (pc' := 36) dX0_stepOnce_34 rfl rfl ?_
  refine zr_isub (pc' := 37) dX0_stepOnce_36 rfl ?_
  refine zr_aload_n (pc' := 38) (i := 0) dX0_stepOnce_37 rfl rfl rfl ?_
  refine zr_get (pc' := 41) dX0_stepOnce_38 rfl (is_0_pos hi0) (is_0_kd hi0) fl_X0_17 kc_0 (is_0_gv_1 hi0 _) ?_
  refine zr_iload (pc' := 43) dX0_stepOnce_41 rfl rfl ?_
  refine zr_aload_n (pc' := 44) (i := 1) dX0_stepOnce_43 rfl rfl rfl ?_
  refine zr_get (pc' := 47) dX0_stepOnce_44 rfl ps_28 kd_28 fl_X0_42 kc_1 (gv_28_1 _) ?_
  refine zr_copy (pc' := 50) dX0_stepOnce_47 rfl (is_0_kp_1 hi0) (is_0_ka_1 hi0) (is_0_kp_1 hi0) (is_0_ka_1 hi0) (by decide) (by decide) ac_X0_64 (by decide) (Nat.le_of_ble_eq_true rfl) h.1.1 h.1.2.1 h.1.2.2.1 h.1.2.2.2.1 h.1.2.2.2.2 (fun M2 hM1 => ?_)
  have h := h.2 M2 hM1
  refine zr_aload_n (pc' := 51) (i := 0) dX0_stepOnce_50 rfl rfl rfl ?_
  refine zr_get (pc' := 54) dX0_stepOnce_51 rfl (is_0_pos hi0) (is_0_kd hi0) fl_X0_26 kc_0 (is_0_gv_6 hi0 _) ?_
  refine zr_iconst (pc' := 55) dX0_stepOnce_54 rfl ?_
  refine zn_callS (pc' := 58) (args := [.inr (.inr (l0 + 5)), .inl 0]) (st := []) (st' := fun _ => []) dX0_stepOnce_55 rfl cs_X0_70 ⟨rfl, rfl, by decide, by decide⟩ rfl rfl rfl (Nat.le_of_ble_eq_true rfl) (fun _ => rfl) (s_fill (is_0_kp_6 hi0) (is_0_ka_6 hi0) (by decide)) ?_
  intro _ M3 hM1
  have h := h M3 hM1
  refine zr_aload_n (pc' := 59) (i := 0) dX0_stepOnce_58 rfl rfl rfl ?_
  refine zr_get (pc' := 62) dX0_stepOnce_59 rfl (is_0_pos hi0) (is_0_kd hi0) fl_X0_29 kc_0 (is_0_gv_7 hi0 _) ?_
  refine zr_iconst (pc' := 63) dX0_stepOnce_62 rfl ?_
  refine zn_callS (pc' := 66) (args := [.inr (.inr (l0 + 6)), .inl 0]) (st := []) (st' := fun _ => []) dX0_stepOnce_63 rfl cs_X0_70 ⟨rfl, rfl, by decide, by decide⟩ rfl rfl rfl (Nat.le_of_ble_eq_true rfl) (fun _ => rfl) (s_fill (is_0_kp_7 hi0) (is_0_ka_7 hi0) (by decide)) ?_
  intro _ M4 hM1
  have h := h M4 hM1
  refine zr_iload_n (pc' := 67) (i := 3) dX0_stepOnce_66 rfl rfl rfl ?_
  refine zr_aload_n (pc' := 68) (i := 2) dX0_stepOnce_67 rfl rfl rfl ?_
  refine zr_get (pc' := 71) dX0_stepOnce_68 rfl (is_10_pos hi2) (is_10_kd hi2) fl_X0_76 kc_10 (is_10_gv_3 hi2 _) ?_
  refine zr_icmp_gt (tgt := 113) (pc' := 74) dX0_stepOnce_71 rfl rfl h.1.1 h.1.2 (fun hc => ?_) (fun hc => ?_)
  · have h := h.2.1 hc
    refine zr_iconst (pc' := 114) dX0_stepOnce_113 rfl ?_
    refine zr_istore (pc' := 116) (al' := [(5, .inl 0), (4, .inl (l3 * 64)), (0, .inr (.inr l0)), (1, .inr (.inr 28)), (2, .inr (.inr l2)), (3, .inl l3)]) dX0_stepOnce_114 rfl (by decide) rfl ?_
    obtain ⟨n', h⟩ := h
    exact zn_al ((key n').1 _ _ _ _ h) ⟨rfl, rfl, rfl, rfl, rfl, trivial⟩
  · have h := h.2.2 hc
    refine zr_aload_n (pc' := 75) (i := 0) dX0_stepOnce_74 rfl rfl rfl ?_
    refine zr_get (pc' := 78) dX0_stepOnce_75 rfl (is_0_pos hi0) (is_0_kd hi0) fl_X0_13 kc_0 (is_0_gv_0 hi0 _) ?_
    refine zr_iload (pc' := 80) dX0_stepOnce_78 rfl rfl ?_
    refine zr_aload_n (pc' := 81) (i := 2) dX0_stepOnce_80 rfl rfl rfl ?_
    refine zr_get (pc' := 84) dX0_stepOnce_81 rfl (is_10_pos hi2) (is_10_kd hi2) fl_X0_81 kc_10 (is_10_gv_1 hi2 _) ?_
    refine zr_iadd (pc' := 85) dX0_stepOnce_84 rfl ?_
    refine zr_dup2 (pc' := 86) dX0_stepOnce_85 rfl rfl rfl ?_
    refine zr_iald (pc' := 87) dX0_stepOnce_86 rfl (is_0_kp_0 hi0) (is_0_ka_0 hi0) (by decide) h.1.1 h.1.2 ?_
    have h := h.2
    refine zr_aload_n (pc' := 88) (i := 2) dX0_stepOnce_87 rfl rfl rfl ?_
    refine zr_get (pc' := 91) dX0_stepOnce_88 rfl (is_10_pos hi2) (is_10_kd hi2) fl_X0_84 kc_10 (is_10_gv_2 hi2 _) ?_
    refine zr_iadd (pc' := 92) dX0_stepOnce_91 rfl ?_
    refine zr_iast (pc' := 93) dX0_stepOnce_92 rfl (is_0_kp_0 hi0) (is_0_ka_0 hi0) (by decide) h.1.1 h.1.2 (fun M5 hM1 => ?_)
    have h := h.2 M5 hM1
    refine zr_aload_n (pc' := 94) (i := 0) dX0_stepOnce_93 rfl rfl rfl ?_
    refine zr_get (pc' := 97) dX0_stepOnce_94 rfl (is_0_pos hi0) (is_0_kd hi0) fl_X0_29 kc_0 (is_0_gv_7 hi0 _) ?_
    refine zr_aload_n (pc' := 98) (i := 2) dX0_stepOnce_97 rfl rfl rfl ?_
    refine zr_get (pc' := 101) dX0_stepOnce_98 rfl (is_10_pos hi2) (is_10_kd hi2) fl_X0_81 kc_10 (is_10_gv_1 hi2 _) ?_
    refine zr_iconst (pc' := 102) dX0_stepOnce_101 rfl ?_
    refine zr_iast (pc' := 103) dX0_stepOnce_102 rfl (is_0_kp_7 hi0) (is_0_ka_7 hi0) (by decide) h.1.1 h.1.2 (fun M6 hM1 => ?_)
    have h := h.2 M6 hM1
    refine zr_aload_n (pc' := 104) (i := 0) dX0_stepOnce_103 rfl rfl rfl ?_
    refine zr_get (pc' := 107) dX0_stepOnce_104 rfl (is_0_pos hi0) (is_0_kd hi0) fl_X0_20 kc_0 (is_0_gv_2 hi0 _) ?_
    refine zr_aload_n (pc' := 108) (i := 2) dX0_stepOnce_107 rfl rfl rfl ?_
    refine zr_get (pc' := 111) dX0_stepOnce_108 rfl (is_10_pos hi2) (is_10_kd hi2) fl_X0_81 kc_10 (is_10_gv_1 hi2 _) ?_
    refine zr_iconst (pc' := 112) dX0_stepOnce_111 rfl ?_
    refine zr_iast (pc' := 113) dX0_stepOnce_112 rfl (is_0_kp_2 hi0) (is_0_ka_2 hi0) (by decide) h.1.1 h.1.2 (fun M7 hM1 => ?_)
    have h := h.2 M7 hM1
    refine zr_iconst (pc' := 114) dX0_stepOnce_113 rfl ?_
    refine zr_istore (pc' := 116) (al' := [(5, .inl 0), (4, .inl (l3 * 64)), (0, .inr (.inr l0)), (1, .inr (.inr 28)), (2, .inr (.inr l2)), (3, .inl l3)]) dX0_stepOnce_114 rfl (by decide) rfl ?_
    obtain ⟨n', h⟩ := h
    exact zn_al ((key n').1 _ _ _ _ h) ⟨rfl, rfl, rfl, rfl, rfl, trivial⟩
set_option maxRecDepth 20000 in
theorem vcX0_give {E : zE} {M : zM} {Q : Int → zM → Prop} (l0 l1 l2 l3 : Int) (hi0 : zIs_0 l0)
    (h : (0 ≤ l1 ∧ l1 < 64) ∧ (0 ≤ l2 ∧ l2 < 64) ∧ ((zR ((M (l0 + 4).toNat l1.toNat) - (M (l0 + 4).toNat l2.toNat))) ∧ ((((M (l0 + 4).toNat l1.toNat) - (M (l0 + 4).toNat l2.toNat)) < 2 → Q 0 M) ∧ (2 ≤ ((M (l0 + 4).toNat l1.toNat) - (M (l0 + 4).toNat l2.toNat)) → (zR ((M (l0 + 4).toNat l1.toNat) - (M (l0 + 4).toNat l2.toNat))) ∧ (zR (Int.tdiv ((M (l0 + 4).toNat l1.toNat) - (M (l0 + 4).toNat l2.toNat)) 2) ∧ zR l3) ∧ (0 ≤ l1 ∧ l1 < 64) ∧ (0 ≤ l1 ∧ l1 < 64) ∧ (∀ M1, M1 = zup M (l0 + 5).toNat l1.toNat ((M (l0 + 5).toNat l1.toNat) - (if l3 < (Int.tdiv ((M (l0 + 4).toNat l1.toNat) - (M (l0 + 4).toNat l2.toNat)) 2) then l3 else (Int.tdiv ((M (l0 + 4).toNat l1.toNat) - (M (l0 + 4).toNat l2.toNat)) 2))) → (0 ≤ l2 ∧ l2 < 64) ∧ (0 ≤ l2 ∧ l2 < 64) ∧ (∀ M2, M2 = zup M1 (l0 + 5).toNat l2.toNat ((M1 (l0 + 5).toNat l2.toNat) + (if l3 < (Int.tdiv ((M (l0 + 4).toNat l1.toNat) - (M (l0 + 4).toNat l2.toNat)) 2) then l3 else (Int.tdiv ((M (l0 + 4).toNat l1.toNat) - (M (l0 + 4).toNat l2.toNat)) 2))) → (0 ≤ l1 ∧ l1 < 64) ∧ (∀ M3, M3 = zup M2 (l0 + 6).toNat l1.toNat 1 → (0 ≤ l2 ∧ l2 < 64) ∧ (∀ M4, M4 = zup M3 (l0 + 6).toNat l2.toNat 1 → Q 0 M4))))))))
    : zP E mX0_give [.inr (.inr l0), .inl l1, .inl l2, .inl l3] M Q := by
  refine zP_of (by decide +kernel) rfl (Nat.le_of_ble_eq_true rfl) ?_
  show zA E zNN (0, 0) mX0_give 0 [(0, .inr (.inr l0)), (1, .inl l1), (2, .inl l2), (3, .inl l3)] [] M (zQ Q)
  refine zr_aload_n (pc' := 1) (i := 0) dX0_give_0 rfl rfl rfl ?_
  refine zr_get (pc' := 4) dX0_give_1 rfl (is_0_pos hi0) (is_0_kd hi0) fl_X0_23 kc_0 (is_0_gv_5 hi0 _) ?_
  refine zr_iload_n (pc' := 5) (i := 1) dX0_give_4 rfl rfl rfl ?_
  refine zr_iald (pc' := 6) dX0_give_5 rfl (is_0_kp_5 hi0) (is_0_ka_5 hi0) (by decide) h.1.1 h.1.2 ?_
  have h := h.2
  refine zr_aload_n (pc' := 7) (i := 0) dX0_give_6 rfl rfl rfl ?_
  refine zr_get (pc' := 10) dX0_give_7 rfl (is_0_pos hi0) (is_0_kd hi0) fl_X0_23 kc_0 (is_0_gv_5 hi0 _) ?_
  refine zr_iload_n (pc' := 11) (i := 2) dX0_give_10 rfl rfl rfl ?_
  refine zr_iald (pc' := 12) dX0_give_11 rfl (is_0_kp_5 hi0) (is_0_ka_5 hi0) (by decide) h.1.1 h.1.2 ?_
  have h := h.2
  refine zr_isub (pc' := 13) dX0_give_12 rfl ?_
  refine zr_istore (pc' := 15) (al' := [(4, .inl ((M (l0 + 4).toNat l1.toNat) - (M (l0 + 4).toNat l2.toNat))), (0, .inr (.inr l0)), (1, .inl l1), (2, .inl l2), (3, .inl l3)]) dX0_give_13 rfl (by decide) rfl ?_
  refine zr_iload (pc' := 17) dX0_give_15 rfl rfl ?_
  refine zr_iconst (pc' := 18) dX0_give_17 rfl ?_
  refine zr_icmp_lt (tgt := 67) (pc' := 21) dX0_give_18 rfl rfl h.1 (zRd rfl) (fun hc => ?_) (fun hc => ?_)
  · have h := h.2.1 hc
    exact zr_return (x := 0) dX0_give_67 rfl (Nat.le_refl _) (Nat.le_refl _) (And.intro rfl h)
  · have h := h.2.2 hc
    refine zr_iload (pc' := 23) dX0_give_21 rfl rfl ?_
    refine zr_iconst (pc' := 24) dX0_give_23 rfl ?_
    refine zr_idiv (pc' := 25) dX0_give_24 rfl h.1 (zRd rfl) (by decide) ?_
    have h := h.2
    refine zr_iload_n (pc' := 26) (i := 3) dX0_give_25 rfl rfl rfl ?_
    refine zr_min (pc' := 29) dX0_give_26 rfl ml_X0_98.1 ml_X0_98.2.1 ml_X0_98.2.2.1 ml_X0_98.2.2.2 (by decide) (Nat.le_of_ble_eq_true rfl) (Nat.zero_le _) (Nat.zero_le _) h.1.1 h.1.2 ?_
    have h := h.2
    refine zr_istore (pc' := 31) (al' := [(5, .inl (if l3 < (Int.tdiv ((M (l0 + 4).toNat l1.toNat) - (M (l0 + 4).toNat l2.toNat)) 2) then l3 else (Int.tdiv ((M (l0 + 4).toNat l1.toNat) - (M (l0 + 4).toNat l2.toNat)) 2))), (4, .inl ((M (l0 + 4).toNat l1.toNat) - (M (l0 + 4).toNat l2.toNat))), (0, .inr (.inr l0)), (1, .inl l1), (2, .inl l2), (3, .inl l3)]) dX0_give_29 rfl (by decide) rfl ?_
    refine zr_aload_n (pc' := 32) (i := 0) dX0_give_31 rfl rfl rfl ?_
    refine zr_get (pc' := 35) dX0_give_32 rfl (is_0_pos hi0) (is_0_kd hi0) fl_X0_26 kc_0 (is_0_gv_6 hi0 _) ?_
    refine zr_iload_n (pc' := 36) (i := 1) dX0_give_35 rfl rfl rfl ?_
    refine zr_dup2 (pc' := 37) dX0_give_36 rfl rfl rfl ?_
    refine zr_iald (pc' := 38) dX0_give_37 rfl (is_0_kp_6 hi0) (is_0_ka_6 hi0) (by decide) h.1.1 h.1.2 ?_
    have h := h.2
    refine zr_iload (pc' := 40) dX0_give_38 rfl rfl ?_
    refine zr_isub (pc' := 41) dX0_give_40 rfl ?_
    refine zr_iast (pc' := 42) dX0_give_41 rfl (is_0_kp_6 hi0) (is_0_ka_6 hi0) (by decide) h.1.1 h.1.2 (fun M1 hM1 => ?_)
    have h := h.2 M1 hM1
    refine zr_aload_n (pc' := 43) (i := 0) dX0_give_42 rfl rfl rfl ?_
    refine zr_get (pc' := 46) dX0_give_43 rfl (is_0_pos hi0) (is_0_kd hi0) fl_X0_26 kc_0 (is_0_gv_6 hi0 _) ?_
    refine zr_iload_n (pc' := 47) (i := 2) dX0_give_46 rfl rfl rfl ?_
    refine zr_dup2 (pc' := 48) dX0_give_47 rfl rfl rfl ?_
    refine zr_iald (pc' := 49) dX0_give_48 rfl (is_0_kp_6 hi0) (is_0_ka_6 hi0) (by decide) h.1.1 h.1.2 ?_
    have h := h.2
    refine zr_iload (pc' := 51) dX0_give_49 rfl rfl ?_
    refine zr_iadd (pc' := 52) dX0_give_51 rfl ?_
    refine zr_iast (pc' := 53) dX0_give_52 rfl (is_0_kp_6 hi0) (is_0_ka_6 hi0) (by decide) h.1.1 h.1.2 (fun M2 hM1 => ?_)
    have h := h.2 M2 hM1
    refine zr_aload_n (pc' := 54) (i := 0) dX0_give_53 rfl rfl rfl ?_
    refine zr_get (pc' := 57) dX0_give_54 rfl (is_0_pos hi0) (is_0_kd hi0) fl_X0_29 kc_0 (is_0_gv_7 hi0 _) ?_
    refine zr_iload_n (pc' := 58) (i := 1) dX0_give_57 rfl rfl rfl ?_
    refine zr_iconst (pc' := 59) dX0_give_58 rfl ?_
    refine zr_iast (pc' := 60) dX0_give_59 rfl (is_0_kp_7 hi0) (is_0_ka_7 hi0) (by decide) h.1.1 h.1.2 (fun M3 hM1 => ?_)
    have h := h.2 M3 hM1
    refine zr_aload_n (pc' := 61) (i := 0) dX0_give_60 rfl rfl rfl ?_
    refine zr_get (pc' := 64) dX0_give_61 rfl (is_0_pos hi0) (is_0_kd hi0) fl_X0_29 kc_0 (is_0_gv_7 hi0 _) ?_
    refine zr_iload_n (pc' := 65) (i := 2) dX0_give_64 rfl rfl rfl ?_
    refine zr_iconst (pc' := 66) dX0_give_65 rfl ?_
    refine zr_iast (pc' := 67) dX0_give_66 rfl (is_0_kp_7 hi0) (is_0_ka_7 hi0) (by decide) h.1.1 h.1.2 (fun M4 hM1 => ?_)
    have h := h.2 M4 hM1
    exact zr_return (x := 0) dX0_give_67 rfl (Nat.le_refl _) (Nat.le_refl _) (And.intro rfl h)
set_option maxRecDepth 20000 in
theorem vcX0_lowestBeside {E : zE} {M : zM} {Q : Int → zM → Prop} (l0 l2 : Int) (hi0 : zIs_0 l0)
    (h : (zP E mX1_column [.inr (.inr 28), .inl l2] M (fun r1 M2 => ((zR l2 ∧ zR (M2 28 0)) ∧ ((l2 < (M2 28 0) → ((zR r1) ∧ ((r1 ≤ 0 → ((zR r1 ∧ zR ((M2 28 0) - 1)) ∧ ((((M2 28 0) - 1) ≤ r1 → ((zR (l2 + (M2 28 0)) ∧ zR (M2 28 1)) ∧ (((M2 28 1) ≤ (l2 + (M2 28 0)) → Q l2 M2) ∧ ((l2 + (M2 28 0)) < (M2 28 1) → (zP E mX0_lowerOf [.inr (.inr l0), .inl (-1), .inl (l2 + (M2 28 0))] M2 (fun r3 M4 => ((zR r3) ∧ ((¬ r3 = (-1) → Q r3 M4) ∧ (r3 = (-1) → Q l2 M4))))))))) ∧ (r1 < ((M2 28 0) - 1) → (zP E mX0_lowerOf [.inr (.inr l0), .inl (-1), .inl (l2 + 1)] M2 (fun r5 M6 => ((zR (l2 + (M6 28 0)) ∧ zR (M6 28 1)) ∧ (((M6 28 1) ≤ (l2 + (M6 28 0)) → ((zR r5) ∧ ((¬ r5 = (-1) → Q r5 M6) ∧ (r5 = (-1) → Q l2 M6)))) ∧ ((l2 + (M6 28 0)) < (M6 28 1) → (zP E mX0_lowerOf [.inr (.inr l0), .inl r5, .inl (l2 + (M6 28 0))] M6 (fun r7 M8 => ((zR r7) ∧ ((¬ r7 = (-1) → Q r7 M8) ∧ (r7 = (-1) → Q l2 M8)))))))))))))) ∧ (0 < r1 → (zP E mX0_lowerOf [.inr (.inr l0), .inl (-1), .inl (l2 - 1)] M2 (fun r9 M10 => ((zR r1 ∧ zR ((M10 28 0) - 1)) ∧ ((((M10 28 0) - 1) ≤ r1 → ((zR (l2 + (M10 28 0)) ∧ zR (M10 28 1)) ∧ (((M10 28 1) ≤ (l2 + (M10 28 0)) → ((zR r9) ∧ ((¬ r9 = (-1) → Q r9 M10) ∧ (r9 = (-1) → Q l2 M10)))) ∧ ((l2 + (M10 28 0)) < (M10 28 1) → (zP E mX0_lowerOf [.inr (.inr l0), .inl r9, .inl (l2 + (M10 28 0))] M10 (fun r11 M12 => ((zR r11) ∧ ((¬ r11 = (-1) → Q r11 M12) ∧ (r11 = (-1) → Q l2 M12))))))))) ∧ (r1 < ((M10 28 0) - 1) → (zP E mX0_lowerOf [.inr (.inr l0), .inl r9, .inl (l2 + 1)] M10 (fun r13 M14 => ((zR (l2 + (M14 28 0)) ∧ zR (M14 28 1)) ∧ (((M14 28 1) ≤ (l2 + (M14 28 0)) → ((zR r13) ∧ ((¬ r13 = (-1) → Q r13 M14) ∧ (r13 = (-1) → Q l2 M14)))) ∧ ((l2 + (M14 28 0)) < (M14 28 1) → (zP E mX0_lowerOf [.inr (.inr l0), .inl r13, .inl (l2 + (M14 28 0))] M14 (fun r15 M16 => ((zR r15) ∧ ((¬ r15 = (-1) → Q r15 M16) ∧ (r15 = (-1) → Q l2 M16))))))))))))))))))) ∧ ((M2 28 0) ≤ l2 → ((zR r1) ∧ ((r1 ≤ 0 → ((zR r1 ∧ zR ((M2 28 0) - 1)) ∧ ((((M2 28 0) - 1) ≤ r1 → ((zR (l2 + (M2 28 0)) ∧ zR (M2 28 1)) ∧ (((M2 28 1) ≤ (l2 + (M2 28 0)) → ((zR (l2 - (M2 28 0))) ∧ ((¬ (l2 - (M2 28 0)) = (-1) → Q (l2 - (M2 28 0)) M2) ∧ ((l2 - (M2 28 0)) = (-1) → Q l2 M2)))) ∧ ((l2 + (M2 28 0)) < (M2 28 1) → (zP E mX0_lowerOf [.inr (.inr l0), .inl (l2 - (M2 28 0)), .inl (l2 + (M2 28 0))] M2 (fun r17 M18 => ((zR r17) ∧ ((¬ r17 = (-1) → Q r17 M18) ∧ (r17 = (-1) → Q l2 M18))))))))) ∧ (r1 < ((M2 28 0) - 1) → (zP E mX0_lowerOf [.inr (.inr l0), .inl (l2 - (M2 28 0)), .inl (l2 + 1)] M2 (fun r19 M20 => ((zR (l2 + (M20 28 0)) ∧ zR (M20 28 1)) ∧ (((M20 28 1) ≤ (l2 + (M20 28 0)) → ((zR r19) ∧ ((¬ r19 = (-1) → Q r19 M20) ∧ (r19 = (-1) → Q l2 M20)))) ∧ ((l2 + (M20 28 0)) < (M20 28 1) → (zP E mX0_lowerOf [.inr (.inr l0), .inl r19, .inl (l2 + (M20 28 0))] M20 (fun r21 M22 => ((zR r21) ∧ ((¬ r21 = (-1) → Q r21 M22) ∧ (r21 = (-1) → Q l2 M22)))))))))))))) ∧ (0 < r1 → (zP E mX0_lowerOf [.inr (.inr l0), .inl (l2 - (M2 28 0)), .inl (l2 - 1)] M2 (fun r23 M24 => ((zR r1 ∧ zR ((M24 28 0) - 1)) ∧ ((((M24 28 0) - 1) ≤ r1 → ((zR (l2 + (M24 28 0)) ∧ zR (M24 28 1)) ∧ (((M24 28 1) ≤ (l2 + (M24 28 0)) → ((zR r23) ∧ ((¬ r23 = (-1) → Q r23 M24) ∧ (r23 = (-1) → Q l2 M24)))) ∧ ((l2 + (M24 28 0)) < (M24 28 1) → (zP E mX0_lowerOf [.inr (.inr l0), .inl r23, .inl (l2 + (M24 28 0))] M24 (fun r25 M26 => ((zR r25) ∧ ((¬ r25 = (-1) → Q r25 M26) ∧ (r25 = (-1) → Q l2 M26))))))))) ∧ (r1 < ((M24 28 0) - 1) → (zP E mX0_lowerOf [.inr (.inr l0), .inl r23, .inl (l2 + 1)] M24 (fun r27 M28 => ((zR (l2 + (M28 28 0)) ∧ zR (M28 28 1)) ∧ (((M28 28 1) ≤ (l2 + (M28 28 0)) → ((zR r27) ∧ ((¬ r27 = (-1) → Q r27 M28) ∧ (r27 = (-1) → Q l2 M28)))) ∧ ((l2 + (M28 28 0)) < (M28 28 1) → (zP E mX0_lowerOf [.inr (.inr l0), .inl r27, .inl (l2 + (M28 28 0))] M28 (fun r29 M30 => ((zR r29) ∧ ((¬ r29 = (-1) → Q r29 M30) ∧ (r29 = (-1) → Q l2 M30))))))))))))))))))))))))
    : zP E mX0_lowestBeside [.inr (.inr l0), .inr (.inr 28), .inl l2] M Q := by
  refine zP_of (by decide +kernel) rfl (Nat.le_of_ble_eq_true rfl) ?_
  show zA E zNN (0, 0) mX0_lowestBeside 0 [(0, .inr (.inr l0)), (1, .inr (.inr 28)), (2, .inl l2)] [] M (zQ Q)
  refine zr_aload_n (pc' := 1) (i := 1) dX0_lowestBeside_0 rfl rfl rfl ?_
  refine zr_iload_n (pc' := 2) (i := 2) dX0_lowestBeside_1 rfl rfl rfl ?_
  refine zn_callV (pc' := 5) (args := [.inl l2]) (st := []) (st' := fun r1 => [.inl r1]) dX0_lowestBeside_2 rfl cv_X0_104 ⟨rfl, rfl, by decide, by decide⟩ rfl ps_28 kd_28 rfl rfl (Nat.le_of_ble_eq_true rfl) (fun _ => rfl) h ?_
  intro r1 M2 h
  refine zr_istore_n (pc' := 6) (i := 3) (al' := [(3, .inl r1), (0, .inr (.inr l0)), (1, .inr (.inr 28)), (2, .inl l2)]) dX0_lowestBeside_5 rfl rfl (by decide) rfl ?_
  refine zr_iconst (pc' := 7) dX0_lowestBeside_6 rfl ?_
  refine zr_istore (pc' := 9) (al' := [(4, .inl (-1)), (3, .inl r1), (0, .inr (.inr l0)), (1, .inr (.inr 28)), (2, .inl l2)]) dX0_lowestBeside_7 rfl (by decide) rfl ?_
  refine zr_iload_n (pc' := 10) (i := 2) dX0_lowestBeside_9 rfl rfl rfl ?_
  refine zr_aload_n (pc' := 11) (i := 1) dX0_lowestBeside_10 rfl rfl rfl ?_
  refine zr_get (pc' := 14) dX0_lowestBeside_11 rfl ps_28 kd_28 fl_X0_107 kc_1 (gv_28_0 _) ?_
  refine zr_icmp_lt (tgt := 25) (pc' := 17) dX0_lowestBeside_14 rfl rfl h.1.1 h.1.2 (fun hc => ?_) (fun hc => ?_)
  · have h := h.2.1 hc
    refine zr_iload_n (pc' := 26) (i := 3) dX0_lowestBeside_25 rfl rfl rfl ?_
    refine zr_if_le (tgt := 40) (pc' := 29) dX0_lowestBeside_26 rfl rfl h.1 (fun hc => ?_) (fun hc => ?_)
    · have h := h.2.1 hc
      refine zr_iload_n (pc' := 41) (i := 3) dX0_lowestBeside_40 rfl rfl rfl ?_
      refine zr_aload_n (pc' := 42) (i := 1) dX0_lowestBeside_41 rfl rfl rfl ?_
      refine zr_get (pc' := 45) dX0_lowestBeside_42 rfl ps_28 kd_28 fl_X0_107 kc_1 (gv_28_0 _) ?_
      refine zr_iconst (pc' := 46) dX0_lowestBeside_45 rfl ?_
      refine zr_isub (pc' := 47) dX0_lowestBeside_46 rfl ?_
      refine zr_icmp_ge (tgt := 61) (pc' := 50) dX0_lowestBeside_47 rfl rfl h.1.1 h.1.2 (fun hc => ?_) (fun hc => ?_)
      · have h := h.2.1 hc
        refine zr_iload_n (pc' := 62) (i := 2) dX0_lowestBeside_61 rfl rfl rfl ?_
        refine zr_aload_n (pc' := 63) (i := 1) dX0_lowestBeside_62 rfl rfl rfl ?_
        refine zr_get (pc' := 66) dX0_lowestBeside_63 rfl ps_28 kd_28 fl_X0_107 kc_1 (gv_28_0 _) ?_
        refine zr_iadd (pc' := 67) dX0_lowestBeside_66 rfl ?_
        refine zr_aload_n (pc' := 68) (i := 1) dX0_lowestBeside_67 rfl rfl rfl ?_
        refine zr_get (pc' := 71) dX0_lowestBeside_68 rfl ps_28 kd_28 fl_X0_42 kc_1 (gv_28_1 _) ?_
        refine zr_icmp_ge (tgt := 88) (pc' := 74) dX0_lowestBeside_71 rfl rfl h.1.1 h.1.2 (fun hc => ?_) (fun hc => ?_)
        · have h := h.2.1 hc
          refine zr_iload (pc' := 90) dX0_lowestBeside_88 rfl rfl ?_
          refine zr_iconst (pc' := 91) dX0_lowestBeside_90 rfl ?_
          refine zr_icmp_ne (tgt := 98) (pc' := 94) dX0_lowestBeside_91 rfl rfl (zRd rfl) (zRd rfl) (fun hc => absurd hc (by decide)) (fun _ => ?_)
          refine zr_iload_n (pc' := 95) (i := 2) dX0_lowestBeside_94 rfl rfl rfl ?_
          refine zr_goto (pc' := 100) dX0_lowestBeside_95 rfl ?_
          exact zr_ireturn dX0_lowestBeside_100 rfl rfl trivial (Nat.le_refl _) (Nat.le_refl _) (And.intro rfl h)
        · have h := h.2.2 hc
          refine zr_aload_n (pc' := 75) (i := 0) dX0_lowestBeside_74 rfl rfl rfl ?_
          refine zr_iload (pc' := 77) dX0_lowestBeside_75 rfl rfl ?_
          refine zr_iload_n (pc' := 78) (i := 2) dX0_lowestBeside_77 rfl rfl rfl ?_
          refine zr_aload_n (pc' := 79) (i := 1) dX0_lowestBeside_78 rfl rfl rfl ?_
          refine zr_get (pc' := 82) dX0_lowestBeside_79 rfl ps_28 kd_28 fl_X0_107 kc_1 (gv_28_0 _) ?_
          refine zr_iadd (pc' := 83) dX0_lowestBeside_82 rfl ?_
          refine zn_callV (pc' := 86) (args := [.inl (-1), .inl (l2 + (M2 28 0))]) (st := []) (st' := fun r3 => [.inl r3]) dX0_lowestBeside_83 rfl cv_X0_110 ⟨rfl, rfl, by decide, by decide⟩ rfl (is_0_pos hi0) (is_0_kd hi0) rfl rfl (Nat.le_of_ble_eq_true rfl) (fun _ => rfl) h ?_
          intro r3 M4 h
          refine zr_istore (pc' := 88) (al' := [(4, .inl r3), (3, .inl r1), (0, .inr (.inr l0)), (1, .inr (.inr 28)), (2, .inl l2)]) dX0_lowestBeside_86 rfl (by decide) rfl ?_
          refine zr_iload (pc' := 90) dX0_lowestBeside_88 rfl rfl ?_
          refine zr_iconst (pc' := 91) dX0_lowestBeside_90 rfl ?_
          refine zr_icmp_ne (tgt := 98) (pc' := 94) dX0_lowestBeside_91 rfl rfl h.1 (zRd rfl) (fun hc => ?_) (fun hc => ?_)
          · have h := h.2.1 hc
            refine zr_iload (pc' := 100) dX0_lowestBeside_98 rfl rfl ?_
            exact zr_ireturn dX0_lowestBeside_100 rfl rfl trivial (Nat.le_refl _) (Nat.le_refl _) (And.intro rfl h)
          · have h := h.2.2 hc
            refine zr_iload_n (pc' := 95) (i := 2) dX0_lowestBeside_94 rfl rfl rfl ?_
            refine zr_goto (pc' := 100) dX0_lowestBeside_95 rfl ?_
            exact zr_ireturn dX0_lowestBeside_100 rfl rfl trivial (Nat.le_refl _) (Nat.le_refl _) (And.intro rfl h)
      · have h := h.2.2 hc
        refine zr_aload_n (pc' := 51) (i := 0) dX0_lowestBeside_50 rfl rfl rfl ?_
        refine zr_iload (pc' := 53) dX0_lowestBeside_51 rfl rfl ?_
        refine zr_iload_n (pc' := 54) (i := 2) dX0_lowestBeside_53 rfl rfl rfl ?_
        refine zr_iconst (pc' := 55) dX0_lowestBeside_54 rfl ?_
        refine zr_iadd (pc' := 56) dX0_lowestBeside_55 rfl ?_
        refine zn_callV (pc' := 59) (args := [.inl (-1), .inl (l2 + 1)]) (st := []) (st' := fun r5 => [.inl r5]) dX0_lowestBeside_56 rfl cv_X0_110 ⟨rfl, rfl, by decide, by decide⟩ rfl (is_0_pos hi0) (is_0_kd hi0) rfl rfl (Nat.le_of_ble_eq_true rfl) (fun _ => rfl) h ?_
        intro r5 M6 h
        refine zr_istore (pc' := 61) (al' := [(4, .inl r5), (3, .inl r1), (0, .inr (.inr l0)), (1, .inr (.inr 28)), (2, .inl l2)]) dX0_lowestBeside_59 rfl (by decide) rfl ?_
        refine zr_iload_n (pc' := 62) (i := 2) dX0_lowestBeside_61 rfl rfl rfl ?_
        refine zr_aload_n (pc' := 63) (i := 1) dX0_lowestBeside_62 rfl rfl rfl ?_
        refine zr_get (pc' := 66) dX0_lowestBeside_63 rfl ps_28 kd_28 fl_X0_107 kc_1 (gv_28_0 _) ?_
        refine zr_iadd (pc' := 67) dX0_lowestBeside_66 rfl ?_
        refine zr_aload_n (pc' := 68) (i := 1) dX0_lowestBeside_67 rfl rfl rfl ?_
        refine zr_get (pc' := 71) dX0_lowestBeside_68 rfl ps_28 kd_28 fl_X0_42 kc_1 (gv_28_1 _) ?_
        refine zr_icmp_ge (tgt := 88) (pc' := 74) dX0_lowestBeside_71 rfl rfl h.1.1 h.1.2 (fun hc => ?_) (fun hc => ?_)
        · have h := h.2.1 hc
          refine zr_iload (pc' := 90) dX0_lowestBeside_88 rfl rfl ?_
          refine zr_iconst (pc' := 91) dX0_lowestBeside_90 rfl ?_
          refine zr_icmp_ne (tgt := 98) (pc' := 94) dX0_lowestBeside_91 rfl rfl h.1 (zRd rfl) (fun hc => ?_) (fun hc => ?_)
          · have h := h.2.1 hc
            refine zr_iload (pc' := 100) dX0_lowestBeside_98 rfl rfl ?_
            exact zr_ireturn dX0_lowestBeside_100 rfl rfl trivial (Nat.le_refl _) (Nat.le_refl _) (And.intro rfl h)
          · have h := h.2.2 hc
            refine zr_iload_n (pc' := 95) (i := 2) dX0_lowestBeside_94 rfl rfl rfl ?_
            refine zr_goto (pc' := 100) dX0_lowestBeside_95 rfl ?_
            exact zr_ireturn dX0_lowestBeside_100 rfl rfl trivial (Nat.le_refl _) (Nat.le_refl _) (And.intro rfl h)
        · have h := h.2.2 hc
          refine zr_aload_n (pc' := 75) (i := 0) dX0_lowestBeside_74 rfl rfl rfl ?_
          refine zr_iload (pc' := 77) dX0_lowestBeside_75 rfl rfl ?_
          refine zr_iload_n (pc' := 78) (i := 2) dX0_lowestBeside_77 rfl rfl rfl ?_
          refine zr_aload_n (pc' := 79) (i := 1) dX0_lowestBeside_78 rfl rfl rfl ?_
          refine zr_get (pc' := 82) dX0_lowestBeside_79 rfl ps_28 kd_28 fl_X0_107 kc_1 (gv_28_0 _) ?_
          refine zr_iadd (pc' := 83) dX0_lowestBeside_82 rfl ?_
          refine zn_callV (pc' := 86) (args := [.inl r5, .inl (l2 + (M6 28 0))]) (st := []) (st' := fun r7 => [.inl r7]) dX0_lowestBeside_83 rfl cv_X0_110 ⟨rfl, rfl, by decide, by decide⟩ rfl (is_0_pos hi0) (is_0_kd hi0) rfl rfl (Nat.le_of_ble_eq_true rfl) (fun _ => rfl) h ?_
          intro r7 M8 h
          refine zr_istore (pc' := 88) (al' := [(4, .inl r7), (3, .inl r1), (0, .inr (.inr l0)), (1, .inr (.inr 28)), (2, .inl l2)]) dX0_lowestBeside_86 rfl (by decide) rfl ?_
          refine zr_iload (pc' := 90) dX0_lowestBeside_88 rfl rfl ?_
          refine zr_iconst (pc' := 91) dX0_lowestBeside_90 rfl ?_
          refine zr_icmp_ne (tgt := 98) (pc' := 94) dX0_lowestBeside_91 rfl rfl h.1 (zRd rfl) (fun hc => ?_) (fun hc => ?_)
          · have h := h.2.1 hc
            refine zr_iload (pc' := 100) dX0_lowestBeside_98 rfl rfl ?_
            exact zr_ireturn dX0_lowestBeside_100 rfl rfl trivial (Nat.le_refl _) (Nat.le_refl _) (And.intro rfl h)
          · have h := h.2.2 hc
            refine zr_iload_n (pc' := 95) (i := 2) dX0_lowestBeside_94 rfl rfl rfl ?_
            refine zr_goto (pc' := 100) dX0_lowestBeside_95 rfl ?_
            exact zr_ireturn dX0_lowestBeside_100 rfl rfl trivial (Nat.le_refl _) (Nat.le_refl _) (And.intro rfl h)
    · have h := h.2.2 hc
      refine zr_aload_n (pc' := 30) (i := 0) dX0_lowestBeside_29 rfl rfl rfl ?_
      refine zr_iload (pc' := 32) dX0_lowestBeside_30 rfl rfl ?_
      refine zr_iload_n (pc' := 33) (i := 2) dX0_lowestBeside_32 rfl rfl rfl ?_
      refine zr_iconst (pc' := 34) dX0_lowestBeside_33 rfl ?_
      refine zr_isub (pc' := 35) dX0_lowestBeside_34 rfl ?_
      refine zn_callV (pc' := 38) (args := [.inl (-1), .inl (l2 - 1)]) (st := []) (st' := fun r9 => [.inl r9]) dX0_lowestBeside_35 rfl cv_X0_110 ⟨rfl, rfl, by decide, by decide⟩ rfl (is_0_pos hi0) (is_0_kd hi0) rfl rfl (Nat.le_of_ble_eq_true rfl) (fun _ => rfl) h ?_
      intro r9 M10 h
      refine zr_istore (pc' := 40) (al' := [(4, .inl r9), (3, .inl r1), (0, .inr (.inr l0)), (1, .inr (.inr 28)), (2, .inl l2)]) dX0_lowestBeside_38 rfl (by decide) rfl ?_
      refine zr_iload_n (pc' := 41) (i := 3) dX0_lowestBeside_40 rfl rfl rfl ?_
      refine zr_aload_n (pc' := 42) (i := 1) dX0_lowestBeside_41 rfl rfl rfl ?_
      refine zr_get (pc' := 45) dX0_lowestBeside_42 rfl ps_28 kd_28 fl_X0_107 kc_1 (gv_28_0 _) ?_
      refine zr_iconst (pc' := 46) dX0_lowestBeside_45 rfl ?_
      refine zr_isub (pc' := 47) dX0_lowestBeside_46 rfl ?_
      refine zr_icmp_ge (tgt := 61) (pc' := 50) dX0_lowestBeside_47 rfl rfl h.1.1 h.1.2 (fun hc => ?_) (fun hc => ?_)
      · have h := h.2.1 hc
        refine zr_iload_n (pc' := 62) (i := 2) dX0_lowestBeside_61 rfl rfl rfl ?_
        refine zr_aload_n (pc' := 63) (i := 1) dX0_lowestBeside_62 rfl rfl rfl ?_
        refine zr_get (pc' := 66) dX0_lowestBeside_63 rfl ps_28 kd_28 fl_X0_107 kc_1 (gv_28_0 _) ?_
        refine zr_iadd (pc' := 67) dX0_lowestBeside_66 rfl ?_
        refine zr_aload_n (pc' := 68) (i := 1) dX0_lowestBeside_67 rfl rfl rfl ?_
        refine zr_get (pc' := 71) dX0_lowestBeside_68 rfl ps_28 kd_28 fl_X0_42 kc_1 (gv_28_1 _) ?_
        refine zr_icmp_ge (tgt := 88) (pc' := 74) dX0_lowestBeside_71 rfl rfl h.1.1 h.1.2 (fun hc => ?_) (fun hc => ?_)
        · have h := h.2.1 hc
          refine zr_iload (pc' := 90) dX0_lowestBeside_88 rfl rfl ?_
          refine zr_iconst (pc' := 91) dX0_lowestBeside_90 rfl ?_
          refine zr_icmp_ne (tgt := 98) (pc' := 94) dX0_lowestBeside_91 rfl rfl h.1 (zRd rfl) (fun hc => ?_) (fun hc => ?_)
          · have h := h.2.1 hc
            refine zr_iload (pc' := 100) dX0_lowestBeside_98 rfl rfl ?_
            exact zr_ireturn dX0_lowestBeside_100 rfl rfl trivial (Nat.le_refl _) (Nat.le_refl _) (And.intro rfl h)
          · have h := h.2.2 hc
            refine zr_iload_n (pc' := 95) (i := 2) dX0_lowestBeside_94 rfl rfl rfl ?_
            refine zr_goto (pc' := 100) dX0_lowestBeside_95 rfl ?_
            exact zr_ireturn dX0_lowestBeside_100 rfl rfl trivial (Nat.le_refl _) (Nat.le_refl _) (And.intro rfl h)
        · have h := h.2.2 hc
          refine zr_aload_n (pc' := 75) (i := 0) dX0_lowestBeside_74 rfl rfl rfl ?_
          refine zr_iload (pc' := 77) dX0_lowestBeside_75 rfl rfl ?_
          refine zr_iload_n (pc' := 78) (i := 2) dX0_lowestBeside_77 rfl rfl rfl ?_
          refine zr_aload_n (pc' := 79) (i := 1) dX0_lowestBeside_78 rfl rfl rfl ?_
          refine zr_get (pc' := 82) dX0_lowestBeside_79 rfl ps_28 kd_28 fl_X0_107 kc_1 (gv_28_0 _) ?_
          refine zr_iadd (pc' := 83) dX0_lowestBeside_82 rfl ?_
          refine zn_callV (pc' := 86) (args := [.inl r9, .inl (l2 + (M10 28 0))]) (st := []) (st' := fun r11 => [.inl r11]) dX0_lowestBeside_83 rfl cv_X0_110 ⟨rfl, rfl, by decide, by decide⟩ rfl (is_0_pos hi0) (is_0_kd hi0) rfl rfl (Nat.le_of_ble_eq_true rfl) (fun _ => rfl) h ?_
          intro r11 M12 h
          refine zr_istore (pc' := 88) (al' := [(4, .inl r11), (3, .inl r1), (0, .inr (.inr l0)), (1, .inr (.inr 28)), (2, .inl l2)]) dX0_lowestBeside_86 rfl (by decide) rfl ?_
          refine zr_iload (pc' := 90) dX0_lowestBeside_88 rfl rfl ?_
          refine zr_iconst (pc' := 91) dX0_lowestBeside_90 rfl ?_
          refine zr_icmp_ne (tgt := 98) (pc' := 94) dX0_lowestBeside_91 rfl rfl h.1 (zRd rfl) (fun hc => ?_) (fun hc => ?_)
          · have h := h.2.1 hc
            refine zr_iload (pc' := 100) dX0_lowestBeside_98 rfl rfl ?_
            exact zr_ireturn dX0_lowestBeside_100 rfl rfl trivial (Nat.le_refl _) (Nat.le_refl _) (And.intro rfl h)
          · have h := h.2.2 hc
            refine zr_iload_n (pc' := 95) (i := 2) dX0_lowestBeside_94 rfl rfl rfl ?_
            refine zr_goto (pc' := 100) dX0_lowestBeside_95 rfl ?_
            exact zr_ireturn dX0_lowestBeside_100 rfl rfl trivial (Nat.le_refl _) (Nat.le_refl _) (And.intro rfl h)
      · have h := h.2.2 hc
        refine zr_aload_n (pc' := 51) (i := 0) dX0_lowestBeside_50 rfl rfl rfl ?_
        refine zr_iload (pc' := 53) dX0_lowestBeside_51 rfl rfl ?_
        refine zr_iload_n (pc' := 54) (i := 2) dX0_lowestBeside_53 rfl rfl rfl ?_
        refine zr_iconst (pc' := 55) dX0_lowestBeside_54 rfl ?_
        refine zr_iadd (pc' := 56) dX0_lowestBeside_55 rfl ?_
        refine zn_callV (pc' := 59) (args := [.inl r9, .inl (l2 + 1)]) (st := []) (st' := fun r13 => [.inl r13]) dX0_lowestBeside_56 rfl cv_X0_110 ⟨rfl, rfl, by decide, by decide⟩ rfl (is_0_pos hi0) (is_0_kd hi0) rfl rfl (Nat.le_of_ble_eq_true rfl) (fun _ => rfl) h ?_
        intro r13 M14 h
        refine zr_istore (pc' := 61) (al' := [(4, .inl r13), (3, .inl r1), (0, .inr (.inr l0)), (1, .inr (.inr 28)), (2, .inl l2)]) dX0_lowestBeside_59 rfl (by decide) rfl ?_
        refine zr_iload_n (pc' := 62) (i := 2) dX0_lowestBeside_61 rfl rfl rfl ?_
        refine zr_aload_n (pc' := 63) (i := 1) dX0_lowestBeside_62 rfl rfl rfl ?_
        refine zr_get (pc' := 66) dX0_lowestBeside_63 rfl ps_28 kd_28 fl_X0_107 kc_1 (gv_28_0 _) ?_
        refine zr_iadd (pc' := 67) dX0_lowestBeside_66 rfl ?_
        refine zr_aload_n (pc' := 68) (i := 1) dX0_lowestBeside_67 rfl rfl rfl ?_
        refine zr_get (pc' := 71) dX0_lowestBeside_68 rfl ps_28 kd_28 fl_X0_42 kc_1 (gv_28_1 _) ?_
        refine zr_icmp_ge (tgt := 88) (pc' := 74) dX0_lowestBeside_71 rfl rfl h.1.1 h.1.2 (fun hc => ?_) (fun hc => ?_)
        · have h := h.2.1 hc
          refine zr_iload (pc' := 90) dX0_lowestBeside_88 rfl rfl ?_
          refine zr_iconst (pc' := 91) dX0_lowestBeside_90 rfl ?_
          refine zr_icmp_ne (tgt := 98) (pc' := 94) dX0_lowestBeside_91 rfl rfl h.1 (zRd rfl) (fun hc => ?_) (fun hc => ?_)
          · have h := h.2.1 hc
            refine zr_iload (pc' := 100) dX0_lowestBeside_98 rfl rfl ?_
            exact zr_ireturn dX0_lowestBeside_100 rfl rfl trivial (Nat.le_refl _) (Nat.le_refl _) (And.intro rfl h)
          · have h := h.2.2 hc
            refine zr_iload_n (pc' := 95) (i := 2) dX0_lowestBeside_94 rfl rfl rfl ?_
            refine zr_goto (pc' := 100) dX0_lowestBeside_95 rfl ?_
            exact zr_ireturn dX0_lowestBeside_100 rfl rfl trivial (Nat.le_refl _) (Nat.le_refl _) (And.intro rfl h)
        · have h := h.2.2 hc
          refine zr_aload_n (pc' := 75) (i := 0) dX0_lowestBeside_74 rfl rfl rfl ?_
          refine zr_iload (pc' := 77) dX0_lowestBeside_75 rfl rfl ?_
          refine zr_iload_n (pc' := 78) (i := 2) dX0_lowestBeside_77 rfl rfl rfl ?_
          refine zr_aload_n (pc' := 79) (i := 1) dX0_lowestBeside_78 rfl rfl rfl ?_
          refine zr_get (pc' := 82) dX0_lowestBeside_79 rfl ps_28 kd_28 fl_X0_107 kc_1 (gv_28_0 _) ?_
          refine zr_iadd (pc' := 83) dX0_lowestBeside_82 rfl ?_
          refine zn_callV (pc' := 86) (args := [.inl r13, .inl (l2 + (M14 28 0))]) (st := []) (st' := fun r15 => [.inl r15]) dX0_lowestBeside_83 rfl cv_X0_110 ⟨rfl, rfl, by decide, by decide⟩ rfl (is_0_pos hi0) (is_0_kd hi0) rfl rfl (Nat.le_of_ble_eq_true rfl) (fun _ => rfl) h ?_
          intro r15 M16 h
          refine zr_istore (pc' := 88) (al' := [(4, .inl r15), (3, .inl r1), (0, .inr (.inr l0)), (1, .inr (.inr 28)), (2, .inl l2)]) dX0_lowestBeside_86 rfl (by decide) rfl ?_
          refine zr_iload (pc' := 90) dX0_lowestBeside_88 rfl rfl ?_
          refine zr_iconst (pc' := 91) dX0_lowestBeside_90 rfl ?_
          refine zr_icmp_ne (tgt := 98) (pc' := 94) dX0_lowestBeside_91 rfl rfl h.1 (zRd rfl) (fun hc => ?_) (fun hc => ?_)
          · have h := h.2.1 hc
            refine zr_iload (pc' := 100) dX0_lowestBeside_98 rfl rfl ?_
            exact zr_ireturn dX0_lowestBeside_100 rfl rfl trivial (Nat.le_refl _) (Nat.le_refl _) (And.intro rfl h)
          · have h := h.2.2 hc
            refine zr_iload_n (pc' := 95) (i := 2) dX0_lowestBeside_94 rfl rfl rfl ?_
            refine zr_goto (pc' := 100) dX0_lowestBeside_95 rfl ?_
            exact zr_ireturn dX0_lowestBeside_100 rfl rfl trivial (Nat.le_refl _) (Nat.le_refl _) (And.intro rfl h)
  · have h := h.2.2 hc
    refine zr_iload_n (pc' := 18) (i := 2) dX0_lowestBeside_17 rfl rfl rfl ?_
    refine zr_aload_n (pc' := 19) (i := 1) dX0_lowestBeside_18 rfl rfl rfl ?_
    refine zr_get (pc' := 22) dX0_lowestBeside_19 rfl ps_28 kd_28 fl_X0_107 kc_1 (gv_28_0 _) ?_
    refine zr_isub (pc' := 23) dX0_lowestBeside_22 rfl ?_
    refine zr_istore (pc' := 25) (al' := [(4, .inl (l2 - (M2 28 0))), (3, .inl r1), (0, .inr (.inr l0)), (1, .inr (.inr 28)), (2, .inl l2)]) dX0_lowestBeside_23 rfl (by decide) rfl ?_
    refine zr_iload_n (pc' := 26) (i := 3) dX0_lowestBeside_25 rfl rfl rfl ?_
    refine zr_if_le (tgt := 40) (pc' := 29) dX0_lowestBeside_26 rfl rfl h.1 (fun hc => ?_) (fun hc => ?_)
    · have h := h.2.1 hc
      refine zr_iload_n (pc' := 41) (i := 3) dX0_lowestBeside_40 rfl rfl rfl ?_
      refine zr_aload_n (pc' := 42) (i := 1) dX0_lowestBeside_41 rfl rfl rfl ?_
      refine zr_get (pc' := 45) dX0_lowestBeside_42 rfl ps_28 kd_28 fl_X0_107 kc_1 (gv_28_0 _) ?_
      refine zr_iconst (pc' := 46) dX0_lowestBeside_45 rfl ?_
      refine zr_isub (pc' := 47) dX0_lowestBeside_46 rfl ?_
      refine zr_icmp_ge (tgt := 61) (pc' := 50) dX0_lowestBeside_47 rfl rfl h.1.1 h.1.2 (fun hc => ?_) (fun hc => ?_)
      · have h := h.2.1 hc
        refine zr_iload_n (pc' := 62) (i := 2) dX0_lowestBeside_61 rfl rfl rfl ?_
        refine zr_aload_n (pc' := 63) (i := 1) dX0_lowestBeside_62 rfl rfl rfl ?_
        refine zr_get (pc' := 66) dX0_lowestBeside_63 rfl ps_28 kd_28 fl_X0_107 kc_1 (gv_28_0 _) ?_
        refine zr_iadd (pc' := 67) dX0_lowestBeside_66 rfl ?_
        refine zr_aload_n (pc' := 68) (i := 1) dX0_lowestBeside_67 rfl rfl rfl ?_
        refine zr_get (pc' := 71) dX0_lowestBeside_68 rfl ps_28 kd_28 fl_X0_42 kc_1 (gv_28_1 _) ?_
        refine zr_icmp_ge (tgt := 88) (pc' := 74) dX0_lowestBeside_71 rfl rfl h.1.1 h.1.2 (fun hc => ?_) (fun hc => ?_)
        · have h := h.2.1 hc
          refine zr_iload (pc' := 90) dX0_lowestBeside_88 rfl rfl ?_
          refine zr_iconst (pc' := 91) dX0_lowestBeside_90 rfl ?_
          refine zr_icmp_ne (tgt := 98) (pc' := 94) dX0_lowestBeside_91 rfl rfl h.1 (zRd rfl) (fun hc => ?_) (fun hc => ?_)
          · have h := h.2.1 hc
            refine zr_iload (pc' := 100) dX0_lowestBeside_98 rfl rfl ?_
            exact zr_ireturn dX0_lowestBeside_100 rfl rfl trivial (Nat.le_refl _) (Nat.le_refl _) (And.intro rfl h)
          · have h := h.2.2 hc
            refine zr_iload_n (pc' := 95) (i := 2) dX0_lowestBeside_94 rfl rfl rfl ?_
            refine zr_goto (pc' := 100) dX0_lowestBeside_95 rfl ?_
            exact zr_ireturn dX0_lowestBeside_100 rfl rfl trivial (Nat.le_refl _) (Nat.le_refl _) (And.intro rfl h)
        · have h := h.2.2 hc
          refine zr_aload_n (pc' := 75) (i := 0) dX0_lowestBeside_74 rfl rfl rfl ?_
          refine zr_iload (pc' := 77) dX0_lowestBeside_75 rfl rfl ?_
          refine zr_iload_n (pc' := 78) (i := 2) dX0_lowestBeside_77 rfl rfl rfl ?_
          refine zr_aload_n (pc' := 79) (i := 1) dX0_lowestBeside_78 rfl rfl rfl ?_
          refine zr_get (pc' := 82) dX0_lowestBeside_79 rfl ps_28 kd_28 fl_X0_107 kc_1 (gv_28_0 _) ?_
          refine zr_iadd (pc' := 83) dX0_lowestBeside_82 rfl ?_
          refine zn_callV (pc' := 86) (args := [.inl (l2 - (M2 28 0)), .inl (l2 + (M2 28 0))]) (st := []) (st' := fun r17 => [.inl r17]) dX0_lowestBeside_83 rfl cv_X0_110 ⟨rfl, rfl, by decide, by decide⟩ rfl (is_0_pos hi0) (is_0_kd hi0) rfl rfl (Nat.le_of_ble_eq_true rfl) (fun _ => rfl) h ?_
          intro r17 M18 h
          refine zr_istore (pc' := 88) (al' := [(4, .inl r17), (3, .inl r1), (0, .inr (.inr l0)), (1, .inr (.inr 28)), (2, .inl l2)]) dX0_lowestBeside_86 rfl (by decide) rfl ?_
          refine zr_iload (pc' := 90) dX0_lowestBeside_88 rfl rfl ?_
          refine zr_iconst (pc' := 91) dX0_lowestBeside_90 rfl ?_
          refine zr_icmp_ne (tgt := 98) (pc' := 94) dX0_lowestBeside_91 rfl rfl h.1 (zRd rfl) (fun hc => ?_) (fun hc => ?_)
          · have h := h.2.1 hc
            refine zr_iload (pc' := 100) dX0_lowestBeside_98 rfl rfl ?_
            exact zr_ireturn dX0_lowestBeside_100 rfl rfl trivial (Nat.le_refl _) (Nat.le_refl _) (And.intro rfl h)
          · have h := h.2.2 hc
            refine zr_iload_n (pc' := 95) (i := 2) dX0_lowestBeside_94 rfl rfl rfl ?_
            refine zr_goto (pc' := 100) dX0_lowestBeside_95 rfl ?_
            exact zr_ireturn dX0_lowestBeside_100 rfl rfl trivial (Nat.le_refl _) (Nat.le_refl _) (And.intro rfl h)
      · have h := h.2.2 hc
        refine zr_aload_n (pc' := 51) (i := 0) dX0_lowestBeside_50 rfl rfl rfl ?_
        refine zr_iload (pc' := 53) dX0_lowestBeside_51 rfl rfl ?_
        refine zr_iload_n (pc' := 54) (i := 2) dX0_lowestBeside_53 rfl rfl rfl ?_
        refine zr_iconst (pc' := 55) dX0_lowestBeside_54 rfl ?_
        refine zr_iadd (pc' := 56) dX0_lowestBeside_55 rfl ?_
        refine zn_callV (pc' := 59) (args := [.inl (l2 - (M2 28 0)), .inl (l2 + 1)]) (st := []) (st' := fun r19 => [.inl r19]) dX0_lowestBeside_56 rfl cv_X0_110 ⟨rfl, rfl, by decide, by decide⟩ rfl (is_0_pos hi0) (is_0_kd hi0) rfl rfl (Nat.le_of_ble_eq_true rfl) (fun _ => rfl) h ?_
        intro r19 M20 h
        refine zr_istore (pc' := 61) (al' := [(4, .inl r19), (3, .inl r1), (0, .inr (.inr l0)), (1, .inr (.inr 28)), (2, .inl l2)]) dX0_lowestBeside_59 rfl (by decide) rfl ?_
        refine zr_iload_n (pc' := 62) (i := 2) dX0_lowestBeside_61 rfl rfl rfl ?_
        refine zr_aload_n (pc' := 63) (i := 1) dX0_lowestBeside_62 rfl rfl rfl ?_
        refine zr_get (pc' := 66) dX0_lowestBeside_63 rfl ps_28 kd_28 fl_X0_107 kc_1 (gv_28_0 _) ?_
        refine zr_iadd (pc' := 67) dX0_lowestBeside_66 rfl ?_
        refine zr_aload_n (pc' := 68) (i := 1) dX0_lowestBeside_67 rfl rfl rfl ?_
        refine zr_get (pc' := 71) dX0_lowestBeside_68 rfl ps_28 kd_28 fl_X0_42 kc_1 (gv_28_1 _) ?_
        refine zr_icmp_ge (tgt := 88) (pc' := 74) dX0_lowestBeside_71 rfl rfl h.1.1 h.1.2 (fun hc => ?_) (fun hc => ?_)
        · have h := h.2.1 hc
          refine zr_iload (pc' := 90) dX0_lowestBeside_88 rfl rfl ?_
          refine zr_iconst (pc' := 91) dX0_lowestBeside_90 rfl ?_
          refine zr_icmp_ne (tgt := 98) (pc' := 94) dX0_lowestBeside_91 rfl rfl h.1 (zRd rfl) (fun hc => ?_) (fun hc => ?_)
          · have h := h.2.1 hc
            refine zr_iload (pc' := 100) dX0_lowestBeside_98 rfl rfl ?_
            exact zr_ireturn dX0_lowestBeside_100 rfl rfl trivial (Nat.le_refl _) (Nat.le_refl _) (And.intro rfl h)
          · have h := h.2.2 hc
            refine zr_iload_n (pc' := 95) (i := 2) dX0_lowestBeside_94 rfl rfl rfl ?_
            refine zr_goto (pc' := 100) dX0_lowestBeside_95 rfl ?_
            exact zr_ireturn dX0_lowestBeside_100 rfl rfl trivial (Nat.le_refl _) (Nat.le_refl _) (And.intro rfl h)
        · have h := h.2.2 hc
          refine zr_aload_n (pc' := 75) (i := 0) dX0_lowestBeside_74 rfl rfl rfl ?_
          refine zr_iload (pc' := 77) dX0_lowestBeside_75 rfl rfl ?_
          refine zr_iload_n (pc' := 78) (i := 2) dX0_lowestBeside_77 rfl rfl rfl ?_
          refine zr_aload_n (pc' := 79) (i := 1) dX0_lowestBeside_78 rfl rfl rfl ?_
          refine zr_get (pc' := 82) dX0_lowestBeside_79 rfl ps_28 kd_28 fl_X0_107 kc_1 (gv_28_0 _) ?_
          refine zr_iadd (pc' := 83) dX0_lowestBeside_82 rfl ?_
          refine zn_callV (pc' := 86) (args := [.inl r19, .inl (l2 + (M20 28 0))]) (st := []) (st' := fun r21 => [.inl r21]) dX0_lowestBeside_83 rfl cv_X0_110 ⟨rfl, rfl, by decide, by decide⟩ rfl (is_0_pos hi0) (is_0_kd hi0) rfl rfl (Nat.le_of_ble_eq_true rfl) (fun _ => rfl) h ?_
          intro r21 M22 h
          refine zr_istore (pc' := 88) (al' := [(4, .inl r21), (3, .inl r1), (0, .inr (.inr l0)), (1, .inr (.inr 28)), (2, .inl l2)]) dX0_lowestBeside_86 rfl (by decide) rfl ?_
          refine zr_iload (pc' := 90) dX0_lowestBeside_88 rfl rfl ?_
          refine zr_iconst (pc' := 91) dX0_lowestBeside_90 rfl ?_
          refine zr_icmp_ne (tgt := 98) (pc' := 94) dX0_lowestBeside_91 rfl rfl h.1 (zRd rfl) (fun hc => ?_) (fun hc => ?_)
          · have h := h.2.1 hc
            refine zr_iload (pc' := 100) dX0_lowestBeside_98 rfl rfl ?_
            exact zr_ireturn dX0_lowestBeside_100 rfl rfl trivial (Nat.le_refl _) (Nat.le_refl _) (And.intro rfl h)
          · have h := h.2.2 hc
            refine zr_iload_n (pc' := 95) (i := 2) dX0_lowestBeside_94 rfl rfl rfl ?_
            refine zr_goto (pc' := 100) dX0_lowestBeside_95 rfl ?_
            exact zr_ireturn dX0_lowestBeside_100 rfl rfl trivial (Nat.le_refl _) (Nat.le_refl _) (And.intro rfl h)
    · have h := h.2.2 hc
      refine zr_aload_n (pc' := 30) (i := 0) dX0_lowestBeside_29 rfl rfl rfl ?_
      refine zr_iload (pc' := 32) dX0_lowestBeside_30 rfl rfl ?_
      refine zr_iload_n (pc' := 33) (i := 2) dX0_lowestBeside_32 rfl rfl rfl ?_
      refine zr_iconst (pc' := 34) dX0_lowestBeside_33 rfl ?_
      refine zr_isub (pc' := 35) dX0_lowestBeside_34 rfl ?_
      refine zn_callV (pc' := 38) (args := [.inl (l2 - (M2 28 0)), .inl (l2 - 1)]) (st := []) (st' := fun r23 => [.inl r23]) dX0_lowestBeside_35 rfl cv_X0_110 ⟨rfl, rfl, by decide, by decide⟩ rfl (is_0_pos hi0) (is_0_kd hi0) rfl rfl (Nat.le_of_ble_eq_true rfl) (fun _ => rfl) h ?_
      intro r23 M24 h
      refine zr_istore (pc' := 40) (al' := [(4, .inl r23), (3, .inl r1), (0, .inr (.inr l0)), (1, .inr (.inr 28)), (2, .inl l2)]) dX0_lowestBeside_38 rfl (by decide) rfl ?_
      refine zr_iload_n (pc' := 41) (i := 3) dX0_lowestBeside_40 rfl rfl rfl ?_
      refine zr_aload_n (pc' := 42) (i := 1) dX0_lowestBeside_41 rfl rfl rfl ?_
      refine zr_get (pc' := 45) dX0_lowestBeside_42 rfl ps_28 kd_28 fl_X0_107 kc_1 (gv_28_0 _) ?_
      refine zr_iconst (pc' := 46) dX0_lowestBeside_45 rfl ?_
      refine zr_isub (pc' := 47) dX0_lowestBeside_46 rfl ?_
      refine zr_icmp_ge (tgt := 61) (pc' := 50) dX0_lowestBeside_47 rfl rfl h.1.1 h.1.2 (fun hc => ?_) (fun hc => ?_)
      · have h := h.2.1 hc
        refine zr_iload_n (pc' := 62) (i := 2) dX0_lowestBeside_61 rfl rfl rfl ?_
        refine zr_aload_n (pc' := 63) (i := 1) dX0_lowestBeside_62 rfl rfl rfl ?_
        refine zr_get (pc' := 66) dX0_lowestBeside_63 rfl ps_28 kd_28 fl_X0_107 kc_1 (gv_28_0 _) ?_
        refine zr_iadd (pc' := 67) dX0_lowestBeside_66 rfl ?_
        refine zr_aload_n (pc' := 68) (i := 1) dX0_lowestBeside_67 rfl rfl rfl ?_
        refine zr_get (pc' := 71) dX0_lowestBeside_68 rfl ps_28 kd_28 fl_X0_42 kc_1 (gv_28_1 _) ?_
        refine zr_icmp_ge (tgt := 88) (pc' := 74) dX0_lowestBeside_71 rfl rfl h.1.1 h.1.2 (fun hc => ?_) (fun hc => ?_)
        · have h := h.2.1 hc
          refine zr_iload (pc' := 90) dX0_lowestBeside_88 rfl rfl ?_
          refine zr_iconst (pc' := 91) dX0_lowestBeside_90 rfl ?_
          refine zr_icmp_ne (tgt := 98) (pc' := 94) dX0_lowestBeside_91 rfl rfl h.1 (zRd rfl) (fun hc => ?_) (fun hc => ?_)
          · have h := h.2.1 hc
            refine zr_iload (pc' := 100) dX0_lowestBeside_98 rfl rfl ?_
            exact zr_ireturn dX0_lowestBeside_100 rfl rfl trivial (Nat.le_refl _) (Nat.le_refl _) (And.intro rfl h)
          · have h := h.2.2 hc
            refine zr_iload_n (pc' := 95) (i := 2) dX0_lowestBeside_94 rfl rfl rfl ?_
            refine zr_goto (pc' := 100) dX0_lowestBeside_95 rfl ?_
            exact zr_ireturn dX0_lowestBeside_100 rfl rfl trivial (Nat.le_refl _) (Nat.le_refl _) (And.intro rfl h)
        · have h := h.2.2 hc
          refine zr_aload_n (pc' := 75) (i := 0) dX0_lowestBeside_74 rfl rfl rfl ?_
          refine zr_iload (pc' := 77) dX0_lowestBeside_75 rfl rfl ?_
          refine zr_iload_n (pc' := 78) (i := 2) dX0_lowestBeside_77 rfl rfl rfl ?_
          refine zr_aload_n (pc' := 79) (i := 1) dX0_lowestBeside_78 rfl rfl rfl ?_
          refine zr_get (pc' := 82) dX0_lowestBeside_79 rfl ps_28 kd_28 fl_X0_107 kc_1 (gv_28_0 _) ?_
          refine zr_iadd (pc' := 83) dX0_lowestBeside_82 rfl ?_
          refine zn_callV (pc' := 86) (args := [.inl r23, .inl (l2 + (M24 28 0))]) (st := []) (st' := fun r25 => [.inl r25]) dX0_lowestBeside_83 rfl cv_X0_110 ⟨rfl, rfl, by decide, by decide⟩ rfl (is_0_pos hi0) (is_0_kd hi0) rfl rfl (Nat.le_of_ble_eq_true rfl) (fun _ => rfl) h ?_
          intro r25 M26 h
          refine zr_istore (pc' := 88) (al' := [(4, .inl r25), (3, .inl r1), (0, .inr (.inr l0)), (1, .inr (.inr 28)), (2, .inl l2)]) dX0_lowestBeside_86 rfl (by decide) rfl ?_
          refine zr_iload (pc' := 90) dX0_lowestBeside_88 rfl rfl ?_
          refine zr_iconst (pc' := 91) dX0_lowestBeside_90 rfl ?_
          refine zr_icmp_ne (tgt := 98) (pc' := 94) dX0_lowestBeside_91 rfl rfl h.1 (zRd rfl) (fun hc => ?_) (fun hc => ?_)
          · have h := h.2.1 hc
            refine zr_iload (pc' := 100) dX0_lowestBeside_98 rfl rfl ?_
            exact zr_ireturn dX0_lowestBeside_100 rfl rfl trivial (Nat.le_refl _) (Nat.le_refl _) (And.intro rfl h)
          · have h := h.2.2 hc
            refine zr_iload_n (pc' := 95) (i := 2) dX0_lowestBeside_94 rfl rfl rfl ?_
            refine zr_goto (pc' := 100) dX0_lowestBeside_95 rfl ?_
            exact zr_ireturn dX0_lowestBeside_100 rfl rfl trivial (Nat.le_refl _) (Nat.le_refl _) (And.intro rfl h)
      · have h := h.2.2 hc
        refine zr_aload_n (pc' := 51) (i := 0) dX0_lowestBeside_50 rfl rfl rfl ?_
        refine zr_iload (pc' := 53) dX0_lowestBeside_51 rfl rfl ?_
        refine zr_iload_n (pc' := 54) (i := 2) dX0_lowestBeside_53 rfl rfl rfl ?_
        refine zr_iconst (pc' := 55) dX0_lowestBeside_54 rfl ?_
        refine zr_iadd (pc' := 56) dX0_lowestBeside_55 rfl ?_
        refine zn_callV (pc' := 59) (args := [.inl r23, .inl (l2 + 1)]) (st := []) (st' := fun r27 => [.inl r27]) dX0_lowestBeside_56 rfl cv_X0_110 ⟨rfl, rfl, by decide, by decide⟩ rfl (is_0_pos hi0) (is_0_kd hi0) rfl rfl (Nat.le_of_ble_eq_true rfl) (fun _ => rfl) h ?_
        intro r27 M28 h
        refine zr_istore (pc' := 61) (al' := [(4, .inl r27), (3, .inl r1), (0, .inr (.inr l0)), (1, .inr (.inr 28)), (2, .inl l2)]) dX0_lowestBeside_59 rfl (by decide) rfl ?_
        refine zr_iload_n (pc' := 62) (i := 2) dX0_lowestBeside_61 rfl rfl rfl ?_
        refine zr_aload_n (pc' := 63) (i := 1) dX0_lowestBeside_62 rfl rfl rfl ?_
        refine zr_get (pc' := 66) dX0_lowestBeside_63 rfl ps_28 kd_28 fl_X0_107 kc_1 (gv_28_0 _) ?_
        refine zr_iadd (pc' := 67) dX0_lowestBeside_66 rfl ?_
        refine zr_aload_n (pc' := 68) (i := 1) dX0_lowestBeside_67 rfl rfl rfl ?_
        refine zr_get (pc' := 71) dX0_lowestBeside_68 rfl ps_28 kd_28 fl_X0_42 kc_1 (gv_28_1 _) ?_
        refine zr_icmp_ge (tgt := 88) (pc' := 74) dX0_lowestBeside_71 rfl rfl h.1.1 h.1.2 (fun hc => ?_) (fun hc => ?_)
        · have h := h.2.1 hc
          refine zr_iload (pc' := 90) dX0_lowestBeside_88 rfl rfl ?_
          refine zr_iconst (pc' := 91) dX0_lowestBeside_90 rfl ?_
          refine zr_icmp_ne (tgt := 98) (pc' := 94) dX0_lowestBeside_91 rfl rfl h.1 (zRd rfl) (fun hc => ?_) (fun hc => ?_)
          · have h := h.2.1 hc
            refine zr_iload (pc' := 100) dX0_lowestBeside_98 rfl rfl ?_
            exact zr_ireturn dX0_lowestBeside_100 rfl rfl trivial (Nat.le_refl _) (Nat.le_refl _) (And.intro rfl h)
          · have h := h.2.2 hc
            refine zr_iload_n (pc' := 95) (i := 2) dX0_lowestBeside_94 rfl rfl rfl ?_
            refine zr_goto (pc' := 100) dX0_lowestBeside_95 rfl ?_
            exact zr_ireturn dX0_lowestBeside_100 rfl rfl trivial (Nat.le_refl _) (Nat.le_refl _) (And.intro rfl h)
        · have h := h.2.2 hc
          refine zr_aload_n (pc' := 75) (i := 0) dX0_lowestBeside_74 rfl rfl rfl ?_
          refine zr_iload (pc' := 77) dX0_lowestBeside_75 rfl rfl ?_
          refine zr_iload_n (pc' := 78) (i := 2) dX0_lowestBeside_77 rfl rfl rfl ?_
          refine zr_aload_n (pc' := 79) (i := 1) dX0_lowestBeside_78 rfl rfl rfl ?_
          refine zr_get (pc' := 82) dX0_lowestBeside_79 rfl ps_28 kd_28 fl_X0_107 kc_1 (gv_28_0 _) ?_
          refine zr_iadd (pc' := 83) dX0_lowestBeside_82 rfl ?_
          refine zn_callV (pc' := 86) (args := [.inl r27, .inl (l2 + (M28 28 0))]) (st := []) (st' := fun r29 => [.inl r29]) dX0_lowestBeside_83 rfl cv_X0_110 ⟨rfl, rfl, by decide, by decide⟩ rfl (is_0_pos hi0) (is_0_kd hi0) rfl rfl (Nat.le_of_ble_eq_true rfl) (fun _ => rfl) h ?_
          intro r29 M30 h
          refine zr_istore (pc' := 88) (al' := [(4, .inl r29), (3, .inl r1), (0, .inr (.inr l0)), (1, .inr (.inr 28)), (2, .inl l2)]) dX0_lowestBeside_86 rfl (by decide) rfl ?_
          refine zr_iload (pc' := 90) dX0_lowestBeside_88 rfl rfl ?_
          refine zr_iconst (pc' := 91) dX0_lowestBeside_90 rfl ?_
          refine zr_icmp_ne (tgt := 98) (pc' := 94) dX0_lowestBeside_91 rfl rfl h.1 (zRd rfl) (fun hc => ?_) (fun hc => ?_)
          · have h := h.2.1 hc
            refine zr_iload (pc' := 100) dX0_lowestBeside_98 rfl rfl ?_
            exact zr_ireturn dX0_lowestBeside_100 rfl rfl trivial (Nat.le_refl _) (Nat.le_refl _) (And.intro rfl h)
          · have h := h.2.2 hc
            refine zr_iload_n (pc' := 95) (i := 2) dX0_lowestBeside_94 rfl rfl rfl ?_
            refine zr_goto (pc' := 100) dX0_lowestBeside_95 rfl ?_
            exact zr_ireturn dX0_lowestBeside_100 rfl rfl trivial (Nat.le_refl _) (Nat.le_refl _) (And.intro rfl h)
set_option maxRecDepth 20000 in
theorem vcX0_lowerOf {E : zE} {M : zM} {Q : Int → zM → Prop} (l0 l1 l2 : Int) (hi0 : zIs_0 l0)
    (h : ((zR l1) ∧ ((l1 = (-1) → Q l2 M) ∧ (¬ l1 = (-1) → (0 ≤ l2 ∧ l2 < 64) ∧ (0 ≤ l1 ∧ l1 < 64) ∧ ((zR (M (l0 + 4).toNat l2.toNat) ∧ zR (M (l0 + 4).toNat l1.toNat)) ∧ (((M (l0 + 4).toNat l1.toNat) ≤ (M (l0 + 4).toNat l2.toNat) → Q l1 M) ∧ ((M (l0 + 4).toNat l2.toNat) < (M (l0 + 4).toNat l1.toNat) → Q l2 M)))))))
    : zP E mX0_lowerOf [.inr (.inr l0), .inl l1, .inl l2] M Q := by
  refine zP_of (by decide +kernel) rfl (Nat.le_of_ble_eq_true rfl) ?_
  show zA E zNN (0, 0) mX0_lowerOf 0 [(0, .inr (.inr l0)), (1, .inl l1), (2, .inl l2)] [] M (zQ Q)
  refine zr_iload_n (pc' := 1) (i := 1) dX0_lowerOf_0 rfl rfl rfl ?_
  refine zr_iconst (pc' := 2) dX0_lowerOf_1 rfl ?_
  refine zr_icmp_eq (tgt := 20) (pc' := 5) dX0_lowerOf_2 rfl rfl h.1 (zRd rfl) (fun hc => ?_) (fun hc => ?_)
  · have h := h.2.1 hc
    refine zr_iload_n (pc' := 21) (i := 2) dX0_lowerOf_20 rfl rfl rfl ?_
    refine zr_goto (pc' := 25) dX0_lowerOf_21 rfl ?_
    exact zr_ireturn dX0_lowerOf_25 rfl rfl trivial (Nat.le_refl _) (Nat.le_refl _) (And.intro rfl h)
  · have h := h.2.2 hc
    refine zr_aload_n (pc' := 6) (i := 0) dX0_lowerOf_5 rfl rfl rfl ?_
    refine zr_get (pc' := 9) dX0_lowerOf_6 rfl (is_0_pos hi0) (is_0_kd hi0) fl_X0_23 kc_0 (is_0_gv_5 hi0 _) ?_
    refine zr_iload_n (pc' := 10) (i := 2) dX0_lowerOf_9 rfl rfl rfl ?_
    refine zr_iald (pc' := 11) dX0_lowerOf_10 rfl (is_0_kp_5 hi0) (is_0_ka_5 hi0) (by decide) h.1.1 h.1.2 ?_
    have h := h.2
    refine zr_aload_n (pc' := 12) (i := 0) dX0_lowerOf_11 rfl rfl rfl ?_
    refine zr_get (pc' := 15) dX0_lowerOf_12 rfl (is_0_pos hi0) (is_0_kd hi0) fl_X0_23 kc_0 (is_0_gv_5 hi0 _) ?_
    refine zr_iload_n (pc' := 16) (i := 1) dX0_lowerOf_15 rfl rfl rfl ?_
    refine zr_iald (pc' := 17) dX0_lowerOf_16 rfl (is_0_kp_5 hi0) (is_0_ka_5 hi0) (by decide) h.1.1 h.1.2 ?_
    have h := h.2
    refine zr_icmp_ge (tgt := 24) (pc' := 20) dX0_lowerOf_17 rfl rfl h.1.1 h.1.2 (fun hc => ?_) (fun hc => ?_)
    · have h := h.2.1 hc
      refine zr_iload_n (pc' := 25) (i := 1) dX0_lowerOf_24 rfl rfl rfl ?_
      exact zr_ireturn dX0_lowerOf_25 rfl rfl trivial (Nat.le_refl _) (Nat.le_refl _) (And.intro rfl h)
    · have h := h.2.2 hc
      refine zr_iload_n (pc' := 21) (i := 2) dX0_lowerOf_20 rfl rfl rfl ?_
      refine zr_goto (pc' := 25) dX0_lowerOf_21 rfl ?_
      exact zr_ireturn dX0_lowerOf_25 rfl rfl trivial (Nat.le_refl _) (Nat.le_refl _) (And.intro rfl h)
set_option maxRecDepth 20000 in
theorem vcX0_rest {E : zE} {M : zM} {Q : Int → zM → Prop} (l0 l1 l2 l3 : Int) (hi0 : zIs_0 l0)
    (h : (0 ≤ l2 ∧ l2 < 64) ∧ ((zR (M (l0 + 6).toNat l2.toNat)) ∧ ((¬ (M (l0 + 6).toNat l2.toNat) = 0 → (0 ≤ l2 ∧ l2 < 64) ∧ (zR (M (l0 + 3).toNat l2.toNat) ∧ zR l3) ∧ (0 ≤ l2 ∧ l2 < 64) ∧ (∀ M1, M1 = zup M (l0 + 3).toNat l2.toNat (if l3 < (M (l0 + 3).toNat l2.toNat) then l3 else (M (l0 + 3).toNat l2.toNat)) → Q 0 M1)) ∧ ((M (l0 + 6).toNat l2.toNat) = 0 → (0 ≤ l1 + l2 ∧ l1 + l2 < 832) ∧ (0 ≤ l1 + l2 ∧ l1 + l2 < 832) ∧ (∀ M2, M2 = zup M (l0 + 1).toNat ((l1 + l2).toNat) ((M (l0 + 1).toNat ((l1 + l2).toNat)) - 1) → (0 ≤ l1 + l2 ∧ l1 + l2 < 832) ∧ (0 ≤ l1 + l2 ∧ l1 + l2 < 832) ∧ (∀ M3, M3 = zup M2 (l0 + 2).toNat ((l1 + l2).toNat) ((M2 (l0 + 2).toNat ((l1 + l2).toNat)) + 1) → (0 ≤ l2 ∧ l2 < 64) ∧ (zR (M3 (l0 + 3).toNat l2.toNat) ∧ zR l3) ∧ (0 ≤ l2 ∧ l2 < 64) ∧ (∀ M4, M4 = zup M3 (l0 + 3).toNat l2.toNat (if l3 < (M3 (l0 + 3).toNat l2.toNat) then l3 else (M3 (l0 + 3).toNat l2.toNat)) → Q 0 M4)))))))
    : zP E mX0_rest [.inr (.inr l0), .inl l1, .inl l2, .inl l3] M Q := by
  refine zP_of (by decide +kernel) rfl (Nat.le_of_ble_eq_true rfl) ?_
  show zA E zNN (0, 0) mX0_rest 0 [(0, .inr (.inr l0)), (1, .inl l1), (2, .inl l2), (3, .inl l3)] [] M (zQ Q)
  refine zr_aload_n (pc' := 1) (i := 0) dX0_rest_0 rfl rfl rfl ?_
  refine zr_get (pc' := 4) dX0_rest_1 rfl (is_0_pos hi0) (is_0_kd hi0) fl_X0_29 kc_0 (is_0_gv_7 hi0 _) ?_
  refine zr_iload_n (pc' := 5) (i := 2) dX0_rest_4 rfl rfl rfl ?_
  refine zr_iald (pc' := 6) dX0_rest_5 rfl (is_0_kp_7 hi0) (is_0_ka_7 hi0) (by decide) h.1.1 h.1.2 ?_
  have h := h.2
  refine zr_if_ne (tgt := 33) (pc' := 9) dX0_rest_6 rfl rfl h.1 (fun hc => ?_) (fun hc => ?_)
  · have h := h.2.1 hc
    refine zr_aload_n (pc' := 34) (i := 0) dX0_rest_33 rfl rfl rfl ?_
    refine zr_get (pc' := 37) dX0_rest_34 rfl (is_0_pos hi0) (is_0_kd hi0) fl_X0_20 kc_0 (is_0_gv_2 hi0 _) ?_
    refine zr_iload_n (pc' := 38) (i := 2) dX0_rest_37 rfl rfl rfl ?_
    refine zr_aload_n (pc' := 39) (i := 0) dX0_rest_38 rfl rfl rfl ?_
    refine zr_get (pc' := 42) dX0_rest_39 rfl (is_0_pos hi0) (is_0_kd hi0) fl_X0_20 kc_0 (is_0_gv_2 hi0 _) ?_
    refine zr_iload_n (pc' := 43) (i := 2) dX0_rest_42 rfl rfl rfl ?_
    refine zr_iald (pc' := 44) dX0_rest_43 rfl (is_0_kp_2 hi0) (is_0_ka_2 hi0) (by decide) h.1.1 h.1.2 ?_
    have h := h.2
    refine zr_iload_n (pc' := 45) (i := 3) dX0_rest_44 rfl rfl rfl ?_
    refine zr_min (pc' := 48) dX0_rest_45 rfl ml_X0_98.1 ml_X0_98.2.1 ml_X0_98.2.2.1 ml_X0_98.2.2.2 (by decide) (Nat.le_of_ble_eq_true rfl) (Nat.zero_le _) (Nat.zero_le _) h.1.1 h.1.2 ?_
    have h := h.2
    refine zr_iast (pc' := 49) dX0_rest_48 rfl (is_0_kp_2 hi0) (is_0_ka_2 hi0) (by decide) h.1.1 h.1.2 (fun M1 hM1 => ?_)
    have h := h.2 M1 hM1
    exact zr_return (x := 0) dX0_rest_49 rfl (Nat.le_refl _) (Nat.le_refl _) (And.intro rfl h)
  · have h := h.2.2 hc
    refine zr_aload_n (pc' := 10) (i := 0) dX0_rest_9 rfl rfl rfl ?_
    refine zr_get (pc' := 13) dX0_rest_10 rfl (is_0_pos hi0) (is_0_kd hi0) fl_X0_13 kc_0 (is_0_gv_0 hi0 _) ?_
    refine zr_iload_n (pc' := 14) (i := 1) dX0_rest_13 rfl rfl rfl ?_
    refine zr_iload_n (pc' := 15) (i := 2) dX0_rest_14 rfl rfl rfl ?_
    refine zr_iadd (pc' := 16) dX0_rest_15 rfl ?_
    refine zr_dup2 (pc' := 17) dX0_rest_16 rfl rfl rfl ?_
    refine zr_iald (pc' := 18) dX0_rest_17 rfl (is_0_kp_0 hi0) (is_0_ka_0 hi0) (by decide) h.1.1 h.1.2 ?_
    have h := h.2
    refine zr_iconst (pc' := 19) dX0_rest_18 rfl ?_
    refine zr_isub (pc' := 20) dX0_rest_19 rfl ?_
    refine zr_iast (pc' := 21) dX0_rest_20 rfl (is_0_kp_0 hi0) (is_0_ka_0 hi0) (by decide) h.1.1 h.1.2 (fun M2 hM1 => ?_)
    have h := h.2 M2 hM1
    refine zr_aload_n (pc' := 22) (i := 0) dX0_rest_21 rfl rfl rfl ?_
    refine zr_get (pc' := 25) dX0_rest_22 rfl (is_0_pos hi0) (is_0_kd hi0) fl_X0_17 kc_0 (is_0_gv_1 hi0 _) ?_
    refine zr_iload_n (pc' := 26) (i := 1) dX0_rest_25 rfl rfl rfl ?_
    refine zr_iload_n (pc' := 27) (i := 2) dX0_rest_26 rfl rfl rfl ?_
    refine zr_iadd (pc' := 28) dX0_rest_27 rfl ?_
    refine zr_dup2 (pc' := 29) dX0_rest_28 rfl rfl rfl ?_
    refine zr_iald (pc' := 30) dX0_rest_29 rfl (is_0_kp_1 hi0) (is_0_ka_1 hi0) (by decide) h.1.1 h.1.2 ?_
    have h := h.2
    refine zr_iconst (pc' := 31) dX0_rest_30 rfl ?_
    refine zr_iadd (pc' := 32) dX0_rest_31 rfl ?_
    refine zr_iast (pc' := 33) dX0_rest_32 rfl (is_0_kp_1 hi0) (is_0_ka_1 hi0) (by decide) h.1.1 h.1.2 (fun M3 hM1 => ?_)
    have h := h.2 M3 hM1
    refine zr_aload_n (pc' := 34) (i := 0) dX0_rest_33 rfl rfl rfl ?_
    refine zr_get (pc' := 37) dX0_rest_34 rfl (is_0_pos hi0) (is_0_kd hi0) fl_X0_20 kc_0 (is_0_gv_2 hi0 _) ?_
    refine zr_iload_n (pc' := 38) (i := 2) dX0_rest_37 rfl rfl rfl ?_
    refine zr_aload_n (pc' := 39) (i := 0) dX0_rest_38 rfl rfl rfl ?_
    refine zr_get (pc' := 42) dX0_rest_39 rfl (is_0_pos hi0) (is_0_kd hi0) fl_X0_20 kc_0 (is_0_gv_2 hi0 _) ?_
    refine zr_iload_n (pc' := 43) (i := 2) dX0_rest_42 rfl rfl rfl ?_
    refine zr_iald (pc' := 44) dX0_rest_43 rfl (is_0_kp_2 hi0) (is_0_ka_2 hi0) (by decide) h.1.1 h.1.2 ?_
    have h := h.2
    refine zr_iload_n (pc' := 45) (i := 3) dX0_rest_44 rfl rfl rfl ?_
    refine zr_min (pc' := 48) dX0_rest_45 rfl ml_X0_98.1 ml_X0_98.2.1 ml_X0_98.2.2.1 ml_X0_98.2.2.2 (by decide) (Nat.le_of_ble_eq_true rfl) (Nat.zero_le _) (Nat.zero_le _) h.1.1 h.1.2 ?_
    have h := h.2
    refine zr_iast (pc' := 49) dX0_rest_48 rfl (is_0_kp_2 hi0) (is_0_ka_2 hi0) (by decide) h.1.1 h.1.2 (fun M4 hM1 => ?_)
    have h := h.2 M4 hM1
    exact zr_return (x := 0) dX0_rest_49 rfl (Nat.le_refl _) (Nat.le_refl _) (And.intro rfl h)
set_option maxRecDepth 20000 in
theorem vcX0_shutsLike {E : zE} {M : zM} {Q : Int → zM → Prop} (l0 l1 : Int) (hi0 : zIs_0 l0) (hi1 : zIs_0 l1) (I2 : Nat → Int → zM → Prop) (I51 : Nat → Int → zM → Prop)
    (h : ∃ n', I2 n' 0 M)
    (h2 : ∀ (n : Nat) (l3 : Int) (M : zM), I2 n l3 M → ((zR l3 ∧ zR (M 44 6)) ∧ (((M 44 6) ≤ l3 → ∃ n', n' < n ∧ I51 n' 0 M) ∧ (l3 < (M 44 6) → (0 ≤ l3 ∧ l3 < 8) ∧ ((zR (M 45 l3.toNat)) ∧ (((M 45 l3.toNat) = (-1) → ∃ n', n' < n ∧ I2 n' (l3 + 1) M) ∧ (¬ (M 45 l3.toNat) = (-1) → (0 ≤ M 45 l3.toNat ∧ M 45 l3.toNat < 64) ∧ (0 ≤ M 45 l3.toNat ∧ M 45 l3.toNat < 64) ∧ ((zR (M (l0 + 3).toNat ((M 45 l3.toNat).toNat)) ∧ zR (M (l1 + 3).toNat ((M 45 l3.toNat).toNat))) ∧ (((M (l0 + 3).toNat ((M 45 l3.toNat).toNat)) = (M (l1 + 3).toNat ((M 45 l3.toNat).toNat)) → ∃ n', n' < n ∧ I2 n' (l3 + 1) M) ∧ (¬ (M (l0 + 3).toNat ((M 45 l3.toNat).toNat)) = (M (l1 + 3).toNat ((M 45 l3.toNat).toNat)) → Q 0 M))))))))))
    (h51 : ∀ (n : Nat) (l3 : Int) (M : zM), I51 n l3 M → ((zR l3 ∧ zR (M 44 13)) ∧ (((M 44 13) ≤ l3 → Q 1 M) ∧ (l3 < (M 44 13) → (0 ≤ l3 ∧ l3 < 14) ∧ ((zR (M 56 l3.toNat)) ∧ (((M 56 l3.toNat) = (-1) → ∃ n', n' < n ∧ I51 n' (l3 + 1) M) ∧ (¬ (M 56 l3.toNat) = (-1) → (0 ≤ M 56 l3.toNat ∧ M 56 l3.toNat < 64) ∧ (0 ≤ M 56 l3.toNat ∧ M 56 l3.toNat < 64) ∧ ((zR (M (l0 + 3).toNat ((M 56 l3.toNat).toNat)) ∧ zR (M (l1 + 3).toNat ((M 56 l3.toNat).toNat))) ∧ (((M (l0 + 3).toNat ((M 56 l3.toNat).toNat)) = (M (l1 + 3).toNat ((M 56 l3.toNat).toNat)) → ∃ n', n' < n ∧ I51 n' (l3 + 1) M) ∧ (¬ (M (l0 + 3).toNat ((M 56 l3.toNat).toNat)) = (M (l1 + 3).toNat ((M 56 l3.toNat).toNat)) → Q 0 M))))))))))
    : zP E mX0_shutsLike [.inr (.inr l0), .inr (.inr l1), .inr (.inr 44)] M Q := by
  have key : ∀ n : Nat, (∀ (l3 : Int) (M : zM), I2 n l3 M → zA E zNN (0, 0) mX0_shutsLike 2 [(0, .inr (.inr l0)), (1, .inr (.inr l1)), (2, .inr (.inr 44)), (3, .inl l3)] [] M (zQ Q)) ∧ (∀ (l3 : Int) (M : zM), I51 n l3 M → zA E zNN (0, 0) mX0_shutsLike 51 [(0, .inr (.inr l0)), (1, .inr (.inr l1)), (2, .inr (.inr 44)), (3, .inl l3)] [] M (zQ Q)) := by
    intro n
    induction n using Nat.strongRecOn with
    | ind n ih =>
      refine ⟨?_, ?_⟩
      · intro l3 M h
        have h := h2 n l3 M h
        refine zr_iload_n (pc' := 3) (i := 3) dX0_shutsLike_2 rfl rfl rfl ?_
        refine zr_aload_n (pc' := 4) (i := 2) dX0_shutsLike_3 rfl rfl rfl ?_
        refine zr_get (pc' := 7) dX0_shutsLike_4 rfl ps_44 kd_44 fl_X0_113 kc_3 (gv_44_6 _) ?_
        refine zr_icmp_ge (tgt := 49) (pc' := 10) dX0_shutsLike_7 rfl rfl h.1.1 h.1.2 (fun hc => ?_) (fun hc => ?_)
        · have h := h.2.1 hc
          refine zr_iconst (pc' := 50) dX0_shutsLike_49 rfl ?_
          refine zr_istore_n (pc' := 51) (i := 3) (al' := [(3, .inl 0), (0, .inr (.inr l0)), (1, .inr (.inr l1)), (2, .inr (.inr 44))]) dX0_shutsLike_50 rfl rfl (by decide) rfl ?_
          obtain ⟨n', hn, h⟩ := h
          exact zn_al ((ih n' hn).2 _ _ h) ⟨rfl, rfl, rfl, rfl, trivial⟩
        · have h := h.2.2 hc
          refine zr_aload_n (pc' := 11) (i := 2) dX0_shutsLike_10 rfl rfl rfl ?_
          refine zr_get (pc' := 14) dX0_shutsLike_11 rfl ps_44 kd_44 fl_X0_116 kc_3 (gv_44_0 _) ?_
          refine zr_iload_n (pc' := 15) (i := 3) dX0_shutsLike_14 rfl rfl rfl ?_
          refine zr_iald (pc' := 16) dX0_shutsLike_15 rfl ps_45 kd_45 (by decide) h.1.1 h.1.2 ?_
          have h := h.2
          refine zr_istore (pc' := 18) (al' := [(4, .inl (M 45 l3.toNat)), (0, .inr (.inr l0)), (1, .inr (.inr l1)), (2, .inr (.inr 44)), (3, .inl l3)]) dX0_shutsLike_16 rfl (by decide) rfl ?_
          refine zr_iload (pc' := 20) dX0_shutsLike_18 rfl rfl ?_
          refine zr_iconst (pc' := 21) dX0_shutsLike_20 rfl ?_
          refine zr_icmp_eq (tgt := 43) (pc' := 24) dX0_shutsLike_21 rfl rfl h.1 (zRd rfl) (fun hc => ?_) (fun hc => ?_)
          · have h := h.2.1 hc
            refine zr_iinc (pc' := 46) (al' := [(3, .inl (l3 + 1)), (4, .inl (M 45 l3.toNat)), (0, .inr (.inr l0)), (1, .inr (.inr l1)), (2, .inr (.inr 44))]) dX0_shutsLike_43 rfl rfl (by decide) rfl ?_
            refine zr_goto (pc' := 2) dX0_shutsLike_46 rfl ?_
            obtain ⟨n', hn, h⟩ := h
            exact zn_al ((ih n' hn).1 _ _ h) ⟨rfl, rfl, rfl, rfl, trivial⟩
          · have h := h.2.2 hc
            refine zr_aload_n (pc' := 25) (i := 0) dX0_shutsLike_24 rfl rfl rfl ?_
            refine zr_get (pc' := 28) dX0_shutsLike_25 rfl (is_0_pos hi0) (is_0_kd hi0) fl_X0_20 kc_0 (is_0_gv_2 hi0 _) ?_
            refine zr_iload (pc' := 30) dX0_shutsLike_28 rfl rfl ?_
            refine zr_iald (pc' := 31) dX0_shutsLike_30 rfl (is_0_kp_2 hi0) (is_0_ka_2 hi0) (by decide) h.1.1 h.1.2 ?_
            have h := h.2
            refine zr_aload_n (pc' := 32) (i := 1) dX0_shutsLike_31 rfl rfl rfl ?_
            refine zr_get (pc' := 35) dX0_shutsLike_32 rfl (is_0_pos hi1) (is_0_kd hi1) fl_X0_20 kc_0 (is_0_gv_2 hi1 _) ?_
            refine zr_iload (pc' := 37) dX0_shutsLike_35 rfl rfl ?_
            refine zr_iald (pc' := 38) dX0_shutsLike_37 rfl (is_0_kp_2 hi1) (is_0_ka_2 hi1) (by decide) h.1.1 h.1.2 ?_
            have h := h.2
            refine zr_icmp_eq (tgt := 43) (pc' := 41) dX0_shutsLike_38 rfl rfl h.1.1 h.1.2 (fun hc => ?_) (fun hc => ?_)
            · have h := h.2.1 hc
              refine zr_iinc (pc' := 46) (al' := [(3, .inl (l3 + 1)), (4, .inl (M 45 l3.toNat)), (0, .inr (.inr l0)), (1, .inr (.inr l1)), (2, .inr (.inr 44))]) dX0_shutsLike_43 rfl rfl (by decide) rfl ?_
              refine zr_goto (pc' := 2) dX0_shutsLike_46 rfl ?_
              obtain ⟨n', hn, h⟩ := h
              exact zn_al ((ih n' hn).1 _ _ h) ⟨rfl, rfl, rfl, rfl, trivial⟩
            · have h := h.2.2 hc
              refine zr_iconst (pc' := 42) dX0_shutsLike_41 rfl ?_
              exact zr_ireturn dX0_shutsLike_42 rfl rfl (Or.inl rfl) (Nat.le_refl _) (Nat.le_refl _) (And.intro rfl h)
      · intro l3 M h
        have h := h51 n l3 M h
        refine zr_iload_n (pc' := 52) (i := 3) dX0_shutsLike_51 rfl rfl rfl ?_
        refine zr_aload_n (pc' := 53) (i := 2) dX0_shutsLike_52 rfl rfl rfl ?_
        refine zr_get (pc' := 56) dX0_shutsLike_53 rfl ps_44 kd_44 fl_X0_119 kc_3 (gv_44_13 _) ?_
        refine zr_icmp_ge (tgt := 98) (pc' := 59) dX0_shutsLike_56 rfl rfl h.1.1 h.1.2 (fun hc => ?_) (fun hc => ?_)
        · have h := h.2.1 hc
          refine zr_iconst (pc' := 99) dX0_shutsLike_98 rfl ?_
          exact zr_ireturn dX0_shutsLike_99 rfl rfl (Or.inr rfl) (Nat.le_refl _) (Nat.le_refl _) (And.intro rfl h)
        · have h := h.2.2 hc
          refine zr_aload_n (pc' := 60) (i := 2) dX0_shutsLike_59 rfl rfl rfl ?_
          refine zr_get (pc' := 63) dX0_shutsLike_60 rfl ps_44 kd_44 fl_X0_122 kc_3 (gv_44_12 _) ?_
          refine zr_iload_n (pc' := 64) (i := 3) dX0_shutsLike_63 rfl rfl rfl ?_
          refine zr_iald (pc' := 65) dX0_shutsLike_64 rfl ps_56 kd_56 (by decide) h.1.1 h.1.2 ?_
          have h := h.2
          refine zr_istore (pc' := 67) (al' := [(4, .inl (M 56 l3.toNat)), (0, .inr (.inr l0)), (1, .inr (.inr l1)), (2, .inr (.inr 44)), (3, .inl l3)]) dX0_shutsLike_65 rfl (by decide) rfl ?_
          refine zr_iload (pc' := 69) dX0_shutsLike_67 rfl rfl ?_
          refine zr_iconst (pc' := 70) dX0_shutsLike_69 rfl ?_
          refine zr_icmp_eq (tgt := 92) (pc' := 73) dX0_shutsLike_70 rfl rfl h.1 (zRd rfl) (fun hc => ?_) (fun hc => ?_)
          · have h := h.2.1 hc
            refine zr_iinc (pc' := 95) (al' := [(3, .inl (l3 + 1)), (4, .inl (M 56 l3.toNat)), (0, .inr (.inr l0)), (1, .inr (.inr l1)), (2, .inr (.inr 44))]) dX0_shutsLike_92 rfl rfl (by decide) rfl ?_
            refine zr_goto (pc' := 51) dX0_shutsLike_95 rfl ?_
            obtain ⟨n', hn, h⟩ := h
            exact zn_al ((ih n' hn).2 _ _ h) ⟨rfl, rfl, rfl, rfl, trivial⟩
          · have h := h.2.2 hc
            refine zr_aload_n (pc' := 74) (i := 0) dX0_shutsLike_73 rfl rfl rfl ?_
            refine zr_get (pc' := 77) dX0_shutsLike_74 rfl (is_0_pos hi0) (is_0_kd hi0) fl_X0_20 kc_0 (is_0_gv_2 hi0 _) ?_
            refine zr_iload (pc' := 79) dX0_shutsLike_77 rfl rfl ?_
            refine zr_iald (pc' := 80) dX0_shutsLike_79 rfl (is_0_kp_2 hi0) (is_0_ka_2 hi0) (by decide) h.1.1 h.1.2 ?_
            have h := h.2
            refine zr_aload_n (pc' := 81) (i := 1) dX0_shutsLike_80 rfl rfl rfl ?_
            refine zr_get (pc' := 84) dX0_shutsLike_81 rfl (is_0_pos hi1) (is_0_kd hi1) fl_X0_20 kc_0 (is_0_gv_2 hi1 _) ?_
            refine zr_iload (pc' := 86) dX0_shutsLike_84 rfl rfl ?_
            refine zr_iald (pc' := 87) dX0_shutsLike_86 rfl (is_0_kp_2 hi1) (is_0_ka_2 hi1) (by decide) h.1.1 h.1.2 ?_
            have h := h.2
            refine zr_icmp_eq (tgt := 92) (pc' := 90) dX0_shutsLike_87 rfl rfl h.1.1 h.1.2 (fun hc => ?_) (fun hc => ?_)
            · have h := h.2.1 hc
              refine zr_iinc (pc' := 95) (al' := [(3, .inl (l3 + 1)), (4, .inl (M 56 l3.toNat)), (0, .inr (.inr l0)), (1, .inr (.inr l1)), (2, .inr (.inr 44))]) dX0_shutsLike_92 rfl rfl (by decide) rfl ?_
              refine zr_goto (pc' := 51) dX0_shutsLike_95 rfl ?_
              obtain ⟨n', hn, h⟩ := h
              exact zn_al ((ih n' hn).2 _ _ h) ⟨rfl, rfl, rfl, rfl, trivial⟩
            · have h := h.2.2 hc
              refine zr_iconst (pc' := 91) dX0_shutsLike_90 rfl ?_
              exact zr_ireturn dX0_shutsLike_91 rfl rfl (Or.inl rfl) (Nat.le_refl _) (Nat.le_refl _) (And.intro rfl h)
  refine zP_of (by decide +kernel) rfl (Nat.le_of_ble_eq_true rfl) ?_
  show zA E zNN (0, 0) mX0_shutsLike 0 [(0, .inr (.inr l0)), (1, .inr (.inr l1)), (2, .inr (.inr 44))] [] M (zQ Q)
  refine zr_iconst (pc' := 1) dX0_shutsLike_0 rfl ?_
  refine zr_istore_n (pc' := 2) (i := 3) (al' := [(3, .inl 0), (0, .inr (.inr l0)), (1, .inr (.inr l1)), (2, .inr (.inr 44))]) dX0_shutsLike_1 rfl rfl (by decide) rfl ?_
  obtain ⟨n', h⟩ := h
  exact zn_al ((key n').1 _ _ h) ⟨rfl, rfl, rfl, rfl, trivial⟩
set_option maxRecDepth 20000 in
theorem vcX0_openTill {E : zE} {M : zM} {Q : Int → zM → Prop} (l0 l1 l2 : Int) (hi0 : zIs_0 l0) (hi1 : zIs_10 l1)
    (h : ((zR l2) ∧ ((¬ l2 = (-1) → (zP E mX10_lastHour [.inr (.inr l1)] M (fun r1 M2 => (0 ≤ l2 ∧ l2 < 64) ∧ (zR r1 ∧ zR (((M2 l1.toNat 0) + (M2 (l0 + 3).toNat l2.toNat)) - 1)) ∧ Q (if (((M2 l1.toNat 0) + (M2 (l0 + 3).toNat l2.toNat)) - 1) < r1 then (((M2 l1.toNat 0) + (M2 (l0 + 3).toNat l2.toNat)) - 1) else r1) M2))) ∧ (l2 = (-1) → (zP E mX10_lastHour [.inr (.inr l1)] M (fun r3 M4 => Q r3 M4))))))
    : zP E mX0_openTill [.inr (.inr l0), .inr (.inr l1), .inl l2] M Q := by
  refine zP_of (by decide +kernel) rfl (Nat.le_of_ble_eq_true rfl) ?_
  show zA E zNN (0, 0) mX0_openTill 0 [(0, .inr (.inr l0)), (1, .inr (.inr l1)), (2, .inl l2)] [] M (zQ Q)
  refine zr_iload_n (pc' := 1) (i := 2) dX0_openTill_0 rfl rfl rfl ?_
  refine zr_iconst (pc' := 2) dX0_openTill_1 rfl ?_
  refine zr_icmp_ne (tgt := 10) (pc' := 5) dX0_openTill_2 rfl rfl h.1 (zRd rfl) (fun hc => ?_) (fun hc => ?_)
  · have h := h.2.1 hc
    refine zr_aload_n (pc' := 11) (i := 1) dX0_openTill_10 rfl rfl rfl ?_
    refine zn_callV (pc' := 14) (args := []) (st := []) (st' := fun r1 => [.inl r1]) dX0_openTill_11 rfl cv_X0_125 ⟨rfl, rfl, by decide, by decide⟩ rfl (is_10_pos hi1) (is_10_kd hi1) rfl rfl (Nat.le_of_ble_eq_true rfl) (fun _ => rfl) h ?_
    intro r1 M2 h
    refine zr_aload_n (pc' := 15) (i := 1) dX0_openTill_14 rfl rfl rfl ?_
    refine zr_get (pc' := 18) dX0_openTill_15 rfl (is_10_pos hi1) (is_10_kd hi1) fl_X0_129 kc_10 (is_10_gv_0 hi1 _) ?_
    refine zr_aload_n (pc' := 19) (i := 0) dX0_openTill_18 rfl rfl rfl ?_
    refine zr_get (pc' := 22) dX0_openTill_19 rfl (is_0_pos hi0) (is_0_kd hi0) fl_X0_20 kc_0 (is_0_gv_2 hi0 _) ?_
    refine zr_iload_n (pc' := 23) (i := 2) dX0_openTill_22 rfl rfl rfl ?_
    refine zr_iald (pc' := 24) dX0_openTill_23 rfl (is_0_kp_2 hi0) (is_0_ka_2 hi0) (by decide) h.1.1 h.1.2 ?_
    have h := h.2
    refine zr_iadd (pc' := 25) dX0_openTill_24 rfl ?_
    refine zr_iconst (pc' := 26) dX0_openTill_25 rfl ?_
    refine zr_isub (pc' := 27) dX0_openTill_26 rfl ?_
    refine zr_min (pc' := 30) dX0_openTill_27 rfl ml_X0_98.1 ml_X0_98.2.1 ml_X0_98.2.2.1 ml_X0_98.2.2.2 (by decide) (Nat.le_of_ble_eq_true rfl) (Nat.zero_le _) (Nat.zero_le _) h.1.1 h.1.2 ?_
    have h := h.2
    exact zr_ireturn dX0_openTill_30 rfl rfl trivial (Nat.le_refl _) (Nat.le_refl _) (And.intro rfl h)
  · have h := h.2.2 hc
    refine zr_aload_n (pc' := 6) (i := 1) dX0_openTill_5 rfl rfl rfl ?_
    refine zn_callV (pc' := 9) (args := []) (st := []) (st' := fun r3 => [.inl r3]) dX0_openTill_6 rfl cv_X0_125 ⟨rfl, rfl, by decide, by decide⟩ rfl (is_10_pos hi1) (is_10_kd hi1) rfl rfl (Nat.le_of_ble_eq_true rfl) (fun _ => rfl) h ?_
    intro r3 M4 h
    exact zr_ireturn dX0_openTill_9 rfl rfl trivial (Nat.le_refl _) (Nat.le_refl _) (And.intro rfl h)
set_option maxRecDepth 20000 in
theorem vcX0_leadOut {E : zE} {M : zM} {Q : Int → zM → Prop} (l0 l1 : Int) (hi0 : zIs_0 l0) (hi1 : zIs_10 l1) (I12 : Nat → Int → zM → Prop) (I76 : Nat → Int → zM → Prop) (I116 : Nat → Int → zM → Prop)
    (h : (zP E mX2_clear [.inr (.inr 57)] M (fun r1 M2 => (∀ M3, M3 = zup M2 l0.toNat 8 0 → ∃ n', I12 n' 0 M3))))
    (h12 : ∀ (n : Nat) (l4 : Int) (M : zM), I12 n l4 M → ((zR l4 ∧ zR (M 44 6)) ∧ (((M 44 6) ≤ l4 → ∃ n', n' < n ∧ I76 n' 0 M) ∧ (l4 < (M 44 6) → (0 ≤ l4 ∧ l4 < 8) ∧ (zP E mX0_openTill [.inr (.inr l0), .inr (.inr l1), .inl (M 45 l4.toNat)] M (fun r4 M5 => (0 ≤ l4 ∧ l4 < 8) ∧ (∀ M6, M6 = zup M5 (l0 + 8).toNat l4.toNat r4 → (zP E mX0_joinHours [.inr (.inr l0), .inr (.inr l1), .inr (.inr 44), .inr (.inr 57), .inl l4] M6 (fun r7 M8 => (zP E mX3_isTown [.inr (.inr 44), .inl l4] M8 (fun r9 M10 => ((zR r9) ∧ ((r9 = 0 → ∃ n', n' < n ∧ I12 n' (l4 + 1) M10) ∧ (¬ r9 = 0 → (zP E mX0_bringPeople [.inr (.inr l0), .inr (.inr l1), .inr (.inr 44), .inr (.inr 57), .inl l4] M10 (fun r11 M12 => ∃ n', n' < n ∧ I12 n' (l4 + 1) M12))))))))))))))))
    (h76 : ∀ (n : Nat) (l4 : Int) (M : zM), I76 n l4 M → ((zR l4 ∧ zR (M 44 13)) ∧ (((M 44 13) ≤ l4 → (zP E mX2_mostThrough [.inr (.inr 57)] M (fun r13 M14 => (∀ M15, M15 = zup M14 l0.toNat 8 ((M l0.toNat 8) + r13) → ∃ n', n' < n ∧ I116 n' 0 M15)))) ∧ (l4 < (M 44 13) → (zP E mX0_joinByRoad [.inr (.inr l0), .inr (.inr l1), .inr (.inr 44), .inr (.inr 57), .inl l4] M (fun r16 M17 => ∃ n', n' < n ∧ I76 n' (l4 + 1) M17))))))
    (h116 : ∀ (n : Nat) (l4 : Int) (M : zM), I116 n l4 M → ((zR l4) ∧ ((202 ≤ l4 → (∀ M18, M18 = zup M l0.toNat 10 1 → Q 0 M18)) ∧ (l4 < 202 → (zP E mX2_isReached [.inr (.inr 57), .inl l4] M (fun r19 M20 => ((zR r19) ∧ ((r19 = 0 → (0 ≤ l4 ∧ l4 < 202) ∧ (∀ M21, M21 = zup M20 (l0 + 7).toNat l4.toNat 0 → ∃ n', n' < n ∧ I116 n' (l4 + 1) M21)) ∧ (¬ r19 = 0 → (0 ≤ l4 ∧ l4 < 202) ∧ (∀ M22, M22 = zup M20 (l0 + 7).toNat l4.toNat 1 → ∃ n', n' < n ∧ I116 n' (l4 + 1) M22))))))))))
    : zP E mX0_leadOut [.inr (.inr l0), .inr (.inr l1), .inr (.inr 44), .inr (.inr 57)] M Q := by
  have key : ∀ n : Nat, (∀ (l4 : Int) (M : zM), I12 n l4 M → zA E zNN (0, 0) mX0_leadOut 12 [(0, .inr (.inr l0)), (1, .inr (.inr l1)), (2, .inr (.inr 44)), (3, .inr (.inr 57)), (4, .inl l4)] [] M (zQ Q)) ∧ (∀ (l4 : Int) (M : zM), I76 n l4 M → zA E zNN (0, 0) mX0_leadOut 76 [(0, .inr (.inr l0)), (1, .inr (.inr l1)), (2, .inr (.inr 44)), (3, .inr (.inr 57)), (4, .inl l4)] [] M (zQ Q)) ∧ (∀ (l4 : Int) (M : zM), I116 n l4 M → zA E zNN (0, 0) mX0_leadOut 116 [(0, .inr (.inr l0)), (3, .inr (.inr 57)), (4, .inl l4)] [] M (zQ Q)) := by
    intro n
    induction n using Nat.strongRecOn with
    | ind n ih =>
      refine ⟨?_, ?_, ?_⟩
      · intro l4 M h
        have h := h12 n l4 M h
        refine zr_iload (pc' := 14) dX0_leadOut_12 rfl rfl ?_
        refine zr_aload_n (pc' := 15) (i := 2) dX0_leadOut_14 rfl rfl rfl ?_
        refine zr_get (pc' := 18) dX0_leadOut_15 rfl ps_44 kd_44 fl_X0_113 kc_3 (gv_44_6 _) ?_
        refine zr_icmp_ge (tgt := 73) (pc' := 21) dX0_leadOut_18 rfl rfl h.1.1 h.1.2 (fun hc => ?_) (fun hc => ?_)
        · have h := h.2.1 hc
          refine zr_iconst (pc' := 74) dX0_leadOut_73 rfl ?_
          refine zr_istore (pc' := 76) (al' := [(4, .inl 0), (0, .inr (.inr l0)), (1, .inr (.inr l1)), (2, .inr (.inr 44)), (3, .inr (.inr 57))]) dX0_leadOut_74 rfl (by decide) rfl ?_
          obtain ⟨n', hn, h⟩ := h
          exact zn_al ((ih n' hn).2.1 _ _ h) ⟨rfl, rfl, rfl, rfl, rfl, trivial⟩
        · have h := h.2.2 hc
          refine zr_aload_n (pc' := 22) (i := 0) dX0_leadOut_21 rfl rfl rfl ?_
          refine zr_get (pc' := 25) dX0_leadOut_22 rfl (is_0_pos hi0) (is_0_kd hi0) fl_X0_39 kc_0 (is_0_gv_11 hi0 _) ?_
          refine zr_iload (pc' := 27) dX0_leadOut_25 rfl rfl ?_
          refine zr_aload_n (pc' := 28) (i := 0) dX0_leadOut_27 rfl rfl rfl ?_
          refine zr_aload_n (pc' := 29) (i := 1) dX0_leadOut_28 rfl rfl rfl ?_
          refine zr_aload_n (pc' := 30) (i := 2) dX0_leadOut_29 rfl rfl rfl ?_
          refine zr_get (pc' := 33) dX0_leadOut_30 rfl ps_44 kd_44 fl_X0_116 kc_3 (gv_44_0 _) ?_
          refine zr_iload (pc' := 35) dX0_leadOut_33 rfl rfl ?_
          refine zr_iald (pc' := 36) dX0_leadOut_35 rfl ps_45 kd_45 (by decide) h.1.1 h.1.2 ?_
          have h := h.2
          refine zn_callV (pc' := 39) (args := [.inr (.inr l1), .inl (M 45 l4.toNat)]) (st := [.inl l4, .inr (.inr (l0 + 8))]) (st' := fun r4 => [.inl r4, .inl l4, .inr (.inr (l0 + 8))]) dX0_leadOut_36 rfl cv_X0_138 ⟨rfl, rfl, by decide, by decide⟩ rfl (is_0_pos hi0) (is_0_kd hi0) rfl rfl (Nat.le_of_ble_eq_true rfl) (fun _ => rfl) h ?_
          intro r4 M5 h
          refine zr_iast (pc' := 40) dX0_leadOut_39 rfl (is_0_kp_11 hi0) (is_0_ka_11 hi0) (by decide) h.1.1 h.1.2 (fun M6 hM1 => ?_)
          have h := h.2 M6 hM1
          refine zr_aload_n (pc' := 41) (i := 0) dX0_leadOut_40 rfl rfl rfl ?_
          refine zr_aload_n (pc' := 42) (i := 1) dX0_leadOut_41 rfl rfl rfl ?_
          refine zr_aload_n (pc' := 43) (i := 2) dX0_leadOut_42 rfl rfl rfl ?_
          refine zr_aload_n (pc' := 44) (i := 3) dX0_leadOut_43 rfl rfl rfl ?_
          refine zr_iload (pc' := 46) dX0_leadOut_44 rfl rfl ?_
          refine zn_callV (pc' := 49) (args := [.inr (.inr l1), .inr (.inr 44), .inr (.inr 57), .inl l4]) (st := []) (st' := fun _ => []) dX0_leadOut_46 rfl cv_X0_141 ⟨rfl, rfl, by decide, by decide⟩ rfl (is_0_pos hi0) (is_0_kd hi0) rfl rfl (Nat.le_of_ble_eq_true rfl) (fun _ => rfl) h ?_
          intro r7 M8 h
          refine zr_aload_n (pc' := 50) (i := 2) dX0_leadOut_49 rfl rfl rfl ?_
          refine zr_iload (pc' := 52) dX0_leadOut_50 rfl rfl ?_
          refine zn_callV (pc' := 55) (args := [.inl l4]) (st := []) (st' := fun r9 => [.inl r9]) dX0_leadOut_52 rfl cv_X0_145 ⟨rfl, rfl, by decide, by decide⟩ rfl ps_44 kd_44 rfl rfl (Nat.le_of_ble_eq_true rfl) (fun _ => rfl) h ?_
          intro r9 M10 h
          refine zr_if_eq (tgt := 67) (pc' := 58) dX0_leadOut_55 rfl rfl h.1 (fun hc => ?_) (fun hc => ?_)
          · have h := h.2.1 hc
            refine zr_iinc (pc' := 70) (al' := [(4, .inl (l4 + 1)), (0, .inr (.inr l0)), (1, .inr (.inr l1)), (2, .inr (.inr 44)), (3, .inr (.inr 57))]) dX0_leadOut_67 rfl rfl (by decide) rfl ?_
            refine zr_goto (pc' := 12) dX0_leadOut_70 rfl ?_
            obtain ⟨n', hn, h⟩ := h
            exact zn_al ((ih n' hn).1 _ _ h) ⟨rfl, rfl, rfl, rfl, rfl, trivial⟩
          · have h := h.2.2 hc
            refine zr_aload_n (pc' := 59) (i := 0) dX0_leadOut_58 rfl rfl rfl ?_
            refine zr_aload_n (pc' := 60) (i := 1) dX0_leadOut_59 rfl rfl rfl ?_
            refine zr_aload_n (pc' := 61) (i := 2) dX0_leadOut_60 rfl rfl rfl ?_
            refine zr_aload_n (pc' := 62) (i := 3) dX0_leadOut_61 rfl rfl rfl ?_
            refine zr_iload (pc' := 64) dX0_leadOut_62 rfl rfl ?_
            refine zn_callV (pc' := 67) (args := [.inr (.inr l1), .inr (.inr 44), .inr (.inr 57), .inl l4]) (st := []) (st' := fun _ => []) dX0_leadOut_64 rfl cv_X0_149 ⟨rfl, rfl, by decide, by decide⟩ rfl (is_0_pos hi0) (is_0_kd hi0) rfl rfl (Nat.le_of_ble_eq_true rfl) (fun _ => rfl) h ?_
            intro r11 M12 h
            refine zr_iinc (pc' := 70) (al' := [(4, .inl (l4 + 1)), (0, .inr (.inr l0)), (1, .inr (.inr l1)), (2, .inr (.inr 44)), (3, .inr (.inr 57))]) dX0_leadOut_67 rfl rfl (by decide) rfl ?_
            refine zr_goto (pc' := 12) dX0_leadOut_70 rfl ?_
            obtain ⟨n', hn, h⟩ := h
            exact zn_al ((ih n' hn).1 _ _ h) ⟨rfl, rfl, rfl, rfl, rfl, trivial⟩
      · intro l4 M h
        have h := h76 n l4 M h
        refine zr_iload (pc' := 78) dX0_leadOut_76 rfl rfl ?_
        refine zr_aload_n (pc' := 79) (i := 2) dX0_leadOut_78 rfl rfl rfl ?_
        refine zr_get (pc' := 82) dX0_leadOut_79 rfl ps_44 kd_44 fl_X0_119 kc_3 (gv_44_13 _) ?_
        refine zr_icmp_ge (tgt := 100) (pc' := 85) dX0_leadOut_82 rfl rfl h.1.1 h.1.2 (fun hc => ?_) (fun hc => ?_)
        · have h := h.2.1 hc
          refine zr_aload_n (pc' := 101) (i := 0) dX0_leadOut_100 rfl rfl rfl ?_
          refine zr_dup (pc' := 102) dX0_leadOut_101 rfl rfl ?_
          refine zr_get (pc' := 105) dX0_leadOut_102 rfl (is_0_pos hi0) (is_0_kd hi0) fl_X0_135 kc_0 (is_0_gv_8 hi0 _) ?_
          refine zr_aload_n (pc' := 106) (i := 3) dX0_leadOut_105 rfl rfl rfl ?_
          refine zn_callV (pc' := 109) (args := []) (st := [.inl (M l0.toNat 8), .inr (.inr l0)]) (st' := fun r13 => [.inl r13, .inl (M l0.toNat 8), .inr (.inr l0)]) dX0_leadOut_106 rfl cv_X0_155 ⟨rfl, rfl, by decide, by decide⟩ rfl ps_57 kd_57 rfl rfl (Nat.le_of_ble_eq_true rfl) (fun _ => rfl) h ?_
          intro r13 M14 h
          refine zr_iadd (pc' := 110) dX0_leadOut_109 rfl ?_
          refine zr_put (pc' := 113) dX0_leadOut_110 rfl (is_0_pos hi0) (is_0_kd hi0) fl_X0_135 kc_0 rfl (is_0_nf_8 hi0) rfl trivial (fun M15 hM1 => ?_)
          have h := h M15 hM1
          refine zr_iconst (pc' := 114) dX0_leadOut_113 rfl ?_
          refine zr_istore (pc' := 116) (al' := [(4, .inl 0), (0, .inr (.inr l0)), (1, .inr (.inr l1)), (2, .inr (.inr 44)), (3, .inr (.inr 57))]) dX0_leadOut_114 rfl (by decide) rfl ?_
          obtain ⟨n', hn, h⟩ := h
          exact zn_al ((ih n' hn).2.2 _ _ h) ⟨rfl, rfl, rfl, trivial⟩
        · have h := h.2.2 hc
          refine zr_aload_n (pc' := 86) (i := 0) dX0_leadOut_85 rfl rfl rfl ?_
          refine zr_aload_n (pc' := 87) (i := 1) dX0_leadOut_86 rfl rfl rfl ?_
          refine zr_aload_n (pc' := 88) (i := 2) dX0_leadOut_87 rfl rfl rfl ?_
          refine zr_aload_n (pc' := 89) (i := 3) dX0_leadOut_88 rfl rfl rfl ?_
          refine zr_iload (pc' := 91) dX0_leadOut_89 rfl rfl ?_
          refine zn_callV (pc' := 94) (args := [.inr (.inr l1), .inr (.inr 44), .inr (.inr 57), .inl l4]) (st := []) (st' := fun _ => []) dX0_leadOut_91 rfl cv_X0_152 ⟨rfl, rfl, by decide, by decide⟩ rfl (is_0_pos hi0) (is_0_kd hi0) rfl rfl (Nat.le_of_ble_eq_true rfl) (fun _ => rfl) h ?_
          intro r16 M17 h
          refine zr_iinc (pc' := 97) (al' := [(4, .inl (l4 + 1)), (0, .inr (.inr l0)), (1, .inr (.inr l1)), (2, .inr (.inr 44)), (3, .inr (.inr 57))]) dX0_leadOut_94 rfl rfl (by decide) rfl ?_
          refine zr_goto (pc' := 76) dX0_leadOut_97 rfl ?_
          obtain ⟨n', hn, h⟩ := h
          exact zn_al ((ih n' hn).2.1 _ _ h) ⟨rfl, rfl, rfl, rfl, rfl, trivial⟩
      · intro l4 M h
        have h := h116 n l4 M h
        refine zr_iload (pc' := 118) dX0_leadOut_116 rfl rfl ?_
        refine zr_sipush (pc' := 121) dX0_leadOut_118 rfl rfl ?_
        refine zr_icmp_ge (tgt := 151) (pc' := 124) dX0_leadOut_121 rfl rfl h.1 (zRd rfl) (fun hc => ?_) (fun hc => ?_)
        · have h := h.2.1 hc
          refine zr_aload_n (pc' := 152) (i := 0) dX0_leadOut_151 rfl rfl rfl ?_
          refine zr_iconst (pc' := 153) dX0_leadOut_152 rfl ?_
          refine zr_put (pc' := 156) dX0_leadOut_153 rfl (is_0_pos hi0) (is_0_kd hi0) fl_X0_161 kc_0 rfl (is_0_nf_10 hi0) rfl (Or.inr rfl) (fun M18 hM1 => ?_)
          have h := h M18 hM1
          exact zr_return (x := 0) dX0_leadOut_156 rfl (Nat.le_refl _) (Nat.le_refl _) (And.intro rfl h)
        · have h := h.2.2 hc
          refine zr_aload_n (pc' := 125) (i := 0) dX0_leadOut_124 rfl rfl rfl ?_
          refine zr_get (pc' := 128) dX0_leadOut_125 rfl (is_0_pos hi0) (is_0_kd hi0) fl_X0_34 kc_0 (is_0_gv_9 hi0 _) ?_
          refine zr_iload (pc' := 130) dX0_leadOut_128 rfl rfl ?_
          refine zr_aload_n (pc' := 131) (i := 3) dX0_leadOut_130 rfl rfl rfl ?_
          refine zr_iload (pc' := 133) dX0_leadOut_131 rfl rfl ?_
          refine zn_callV (pc' := 136) (args := [.inl l4]) (st := [.inl l4, .inr (.inr (l0 + 7))]) (st' := fun r19 => [.inl r19, .inl l4, .inr (.inr (l0 + 7))]) dX0_leadOut_133 rfl cv_X0_158 ⟨rfl, rfl, by decide, by decide⟩ rfl ps_57 kd_57 rfl rfl (Nat.le_of_ble_eq_true rfl) (fun _ => rfl) h ?_
          intro r19 M20 h
          refine zr_if_eq (tgt := 143) (pc' := 139) dX0_leadOut_136 rfl rfl h.1 (fun hc => ?_) (fun hc => ?_)
          · have h := h.2.1 hc
            refine zr_iconst (pc' := 144) dX0_leadOut_143 rfl ?_
            refine zr_iast (pc' := 145) dX0_leadOut_144 rfl (is_0_kp_9 hi0) (is_0_ka_9 hi0) (by decide) h.1.1 h.1.2 (fun M21 hM1 => ?_)
            have h := h.2 M21 hM1
            refine zr_iinc (pc' := 148) (al' := [(4, .inl (l4 + 1)), (0, .inr (.inr l0)), (3, .inr (.inr 57))]) dX0_leadOut_145 rfl rfl (by decide) rfl ?_
            refine zr_goto (pc' := 116) dX0_leadOut_148 rfl ?_
            obtain ⟨n', hn, h⟩ := h
            exact zn_al ((ih n' hn).2.2 _ _ h) ⟨rfl, rfl, rfl, trivial⟩
          · have h := h.2.2 hc
            refine zr_iconst (pc' := 140) dX0_leadOut_139 rfl ?_
            refine zr_goto (pc' := 144) dX0_leadOut_140 rfl ?_
            refine zr_iast (pc' := 145) dX0_leadOut_144 rfl (is_0_kp_9 hi0) (is_0_ka_9 hi0) (by decide) h.1.1 h.1.2 (fun M22 hM1 => ?_)
            have h := h.2 M22 hM1
            refine zr_iinc (pc' := 148) (al' := [(4, .inl (l4 + 1)), (0, .inr (.inr l0)), (3, .inr (.inr 57))]) dX0_leadOut_145 rfl rfl (by decide) rfl ?_
            refine zr_goto (pc' := 116) dX0_leadOut_148 rfl ?_
            obtain ⟨n', hn, h⟩ := h
            exact zn_al ((ih n' hn).2.2 _ _ h) ⟨rfl, rfl, rfl, trivial⟩
  refine zP_of (by decide +kernel) rfl (Nat.le_of_ble_eq_true rfl) ?_
  show zA E zNN (0, 0) mX0_leadOut 0 [(0, .inr (.inr l0)), (1, .inr (.inr l1)), (2, .inr (.inr 44)), (3, .inr (.inr 57))] [] M (zQ Q)
  refine zr_aload_n (pc' := 1) (i := 3) dX0_leadOut_0 rfl rfl rfl ?_
  refine zn_callV (pc' := 4) (args := []) (st := []) (st' := fun _ => []) dX0_leadOut_1 rfl cv_X0_132 ⟨rfl, rfl, by decide, by decide⟩ rfl ps_57 kd_57 rfl rfl (Nat.le_of_ble_eq_true rfl) (fun _ => rfl) h ?_
  intro r1 M2 h
  refine zr_aload_n (pc' := 5) (i := 0) dX0_leadOut_4 rfl rfl rfl ?_
  refine zr_iconst (pc' := 6) dX0_leadOut_5 rfl ?_
  refine zr_put (pc' := 9) dX0_leadOut_6 rfl (is_0_pos hi0) (is_0_kd hi0) fl_X0_135 kc_0 rfl (is_0_nf_8 hi0) rfl trivial (fun M3 hM1 => ?_)
  have h := h M3 hM1
  refine zr_iconst (pc' := 10) dX0_leadOut_9 rfl ?_
  refine zr_istore (pc' := 12) (al' := [(4, .inl 0), (0, .inr (.inr l0)), (1, .inr (.inr l1)), (2, .inr (.inr 44)), (3, .inr (.inr 57))]) dX0_leadOut_10 rfl (by decide) rfl ?_
  obtain ⟨n', h⟩ := h
  exact zn_al ((key n').1 _ _ h) ⟨rfl, rfl, rfl, rfl, rfl, trivial⟩
set_option maxRecDepth 20000 in
theorem vcX0_joinHours {E : zE} {M : zM} {Q : Int → zM → Prop} (l0 l1 l4 : Int) (hi0 : zIs_0 l0) (hi1 : zIs_10 l1) (I10 : Nat → Int → Int → Int → zM → Prop)
    (h : (zP E mX10_firstHour [.inr (.inr l1)] M (fun r1 M2 => ∃ n', I10 n' l4 r1 r1 M2)))
    (h10 : ∀ (n : Nat) (l4 l5 l6 : Int) (M : zM), I10 n l4 l5 l6 M → (0 ≤ l4 ∧ l4 < 8) ∧ ((zR l6 ∧ zR (M (l0 + 8).toNat l4.toNat)) ∧ (((M (l0 + 8).toNat l4.toNat) ≤ l6 → (0 ≤ l4 ∧ l4 < 8) ∧ (zP E mX10_lastHour [.inr (.inr l1)] M (fun r3 M4 => ((zR (M (l0 + 8).toNat l4.toNat) ∧ zR r3) ∧ ((¬ (M (l0 + 8).toNat l4.toNat) = r3 → Q 0 M4) ∧ ((M (l0 + 8).toNat l4.toNat) = r3 → (zP E mX3_isTown [.inr (.inr 44), .inl l4] M4 (fun r5 M6 => ((zR r5) ∧ ((r5 = 0 → (0 ≤ l4 ∧ l4 < 8) ∧ (zP E mX10_lastHour [.inr (.inr l1)] M6 (fun r7 M8 => (zP E mX2_node [.inl l4, .inl (r7 - l5)] M8 (fun r9 M10 => (zP E mX2_join [.inr (.inr 57), .inl r9, .inl 201, .inl (M6 49 l4.toNat)] M10 (fun r11 M12 => Q 0 M12))))))) ∧ (¬ r5 = 0 → (zP E mX10_lastHour [.inr (.inr l1)] M6 (fun r13 M14 => (zP E mX2_node [.inl l4, .inl (r13 - l5)] M14 (fun r15 M16 => (zP E mX2_join [.inr (.inr 57), .inl r15, .inl 201, .inl 1000000] M16 (fun r17 M18 => Q 0 M18))))))))))))))))) ∧ (l6 < (M (l0 + 8).toNat l4.toNat) → (zP E mX2_node [.inl l4, .inl (l6 - l5)] M (fun r19 M20 => (zP E mX2_join [.inr (.inr 57), .inl r19, .inl (r19 + 1), .inl 1000000] M20 (fun r21 M22 => ∃ n', n' < n ∧ I10 n' l4 l5 (l6 + 1) M22))))))))
    : zP E mX0_joinHours [.inr (.inr l0), .inr (.inr l1), .inr (.inr 44), .inr (.inr 57), .inl l4] M Q := by
  have key : ∀ n : Nat, (∀ (l4 l5 l6 : Int) (M : zM), I10 n l4 l5 l6 M → zA E zNN (0, 0) mX0_joinHours 10 [(0, .inr (.inr l0)), (1, .inr (.inr l1)), (2, .inr (.inr 44)), (3, .inr (.inr 57)), (4, .inl l4), (5, .inl l5), (6, .inl l6)] [] M (zQ Q)) := by
    intro n
    induction n using Nat.strongRecOn with
    | ind n ih =>
      intro l4 l5 l6 M h
      have h := h10 n l4 l5 l6 M h
      refine zr_iload (pc' := 12) dX0_joinHours_10 rfl rfl ?_
      refine zr_aload_n (pc' := 13) (i := 0) dX0_joinHours_12 rfl rfl rfl ?_
      refine zr_get (pc' := 16) dX0_joinHours_13 rfl (is_0_pos hi0) (is_0_kd hi0) fl_X0_39 kc_0 (is_0_gv_11 hi0 _) ?_
      refine zr_iload (pc' := 18) dX0_joinHours_16 rfl rfl ?_
      refine zr_iald (pc' := 19) dX0_joinHours_18 rfl (is_0_kp_11 hi0) (is_0_ka_11 hi0) (by decide) h.1.1 h.1.2 ?_
      have h := h.2
      refine zr_icmp_ge (tgt := 52) (pc' := 22) dX0_joinHours_19 rfl rfl h.1.1 h.1.2 (fun hc => ?_) (fun hc => ?_)
      · have h := h.2.1 hc
        refine zr_aload_n (pc' := 53) (i := 0) dX0_joinHours_52 rfl rfl rfl ?_
        refine zr_get (pc' := 56) dX0_joinHours_53 rfl (is_0_pos hi0) (is_0_kd hi0) fl_X0_39 kc_0 (is_0_gv_11 hi0 _) ?_
        refine zr_iload (pc' := 58) dX0_joinHours_56 rfl rfl ?_
        refine zr_iald (pc' := 59) dX0_joinHours_58 rfl (is_0_kp_11 hi0) (is_0_ka_11 hi0) (by decide) h.1.1 h.1.2 ?_
        have h := h.2
        refine zr_aload_n (pc' := 60) (i := 1) dX0_joinHours_59 rfl rfl rfl ?_
        refine zn_callV (pc' := 63) (args := []) (st := [.inl (M (l0 + 8).toNat l4.toNat)]) (st' := fun r3 => [.inl r3, .inl (M (l0 + 8).toNat l4.toNat)]) dX0_joinHours_60 rfl cv_X0_125 ⟨rfl, rfl, by decide, by decide⟩ rfl (is_10_pos hi1) (is_10_kd hi1) rfl rfl (Nat.le_of_ble_eq_true rfl) (fun _ => rfl) h ?_
        intro r3 M4 h
        refine zr_icmp_ne (tgt := 110) (pc' := 66) dX0_joinHours_63 rfl rfl h.1.1 h.1.2 (fun hc => ?_) (fun hc => ?_)
        · have h := h.2.1 hc
          exact zr_return (x := 0) dX0_joinHours_110 rfl (Nat.le_refl _) (Nat.le_refl _) (And.intro rfl h)
        · have h := h.2.2 hc
          refine zr_aload_n (pc' := 67) (i := 2) dX0_joinHours_66 rfl rfl rfl ?_
          refine zr_iload (pc' := 69) dX0_joinHours_67 rfl rfl ?_
          refine zn_callV (pc' := 72) (args := [.inl l4]) (st := []) (st' := fun r5 => [.inl r5]) dX0_joinHours_69 rfl cv_X0_145 ⟨rfl, rfl, by decide, by decide⟩ rfl ps_44 kd_44 rfl rfl (Nat.le_of_ble_eq_true rfl) (fun _ => rfl) h ?_
          intro r5 M6 h
          refine zr_if_eq (tgt := 80) (pc' := 75) dX0_joinHours_72 rfl rfl h.1 (fun hc => ?_) (fun hc => ?_)
          · have h := h.2.1 hc
            refine zr_aload_n (pc' := 81) (i := 2) dX0_joinHours_80 rfl rfl rfl ?_
            refine zr_get (pc' := 84) dX0_joinHours_81 rfl ps_44 kd_44 fl_X0_174 kc_3 (gv_44_4 _) ?_
            refine zr_iload (pc' := 86) dX0_joinHours_84 rfl rfl ?_
            refine zr_iald (pc' := 87) dX0_joinHours_86 rfl ps_49 kd_49 (by decide) h.1.1 h.1.2 ?_
            have h := h.2
            refine zr_istore (pc' := 89) (al' := [(6, .inl (M6 49 l4.toNat)), (0, .inr (.inr l0)), (1, .inr (.inr l1)), (2, .inr (.inr 44)), (3, .inr (.inr 57)), (4, .inl l4), (5, .inl l5)]) dX0_joinHours_87 rfl (by decide) rfl ?_
            refine zr_aload_n (pc' := 90) (i := 3) dX0_joinHours_89 rfl rfl rfl ?_
            refine zr_iload (pc' := 92) dX0_joinHours_90 rfl rfl ?_
            refine zr_aload_n (pc' := 93) (i := 1) dX0_joinHours_92 rfl rfl rfl ?_
            refine zn_callV (pc' := 96) (args := []) (st := [.inl l4, .inr (.inr 57)]) (st' := fun r7 => [.inl r7, .inl l4, .inr (.inr 57)]) dX0_joinHours_93 rfl cv_X0_125 ⟨rfl, rfl, by decide, by decide⟩ rfl (is_10_pos hi1) (is_10_kd hi1) rfl rfl (Nat.le_of_ble_eq_true rfl) (fun _ => rfl) h ?_
            intro r7 M8 h
            refine zr_iload (pc' := 98) dX0_joinHours_96 rfl rfl ?_
            refine zr_isub (pc' := 99) dX0_joinHours_98 rfl ?_
            refine zn_callS (pc' := 102) (args := [.inl l4, .inl (r7 - l5)]) (st := [.inr (.inr 57)]) (st' := fun r9 => [.inl r9, .inr (.inr 57)]) dX0_joinHours_99 rfl cs_X0_167 ⟨rfl, rfl, by decide, by decide⟩ rfl rfl rfl (Nat.le_of_ble_eq_true rfl) (fun _ => rfl) h ?_
            intro r9 M10 h
            refine zr_sipush (pc' := 105) dX0_joinHours_102 rfl rfl ?_
            refine zr_iload (pc' := 107) dX0_joinHours_105 rfl rfl ?_
            refine zn_callV (pc' := 110) (args := [.inl r9, .inl 201, .inl (M6 49 l4.toNat)]) (st := []) (st' := fun _ => []) dX0_joinHours_107 rfl cv_X0_171 ⟨rfl, rfl, by decide, by decide⟩ rfl ps_57 kd_57 rfl rfl (Nat.le_of_ble_eq_true rfl) (fun _ => rfl) h ?_
            intro r11 M12 h
            exact zr_return (x := 0) dX0_joinHours_110 rfl (Nat.le_refl _) (Nat.le_refl _) (And.intro rfl h)
          · have h := h.2.2 hc
            refine zr_ldc (pc' := 77) (x := 1000000) dX0_joinHours_75 rfl ci_X0_170 ?_
            refine zr_goto (pc' := 87) dX0_joinHours_77 rfl ?_
            refine zr_istore (pc' := 89) (al' := [(6, .inl 1000000), (0, .inr (.inr l0)), (1, .inr (.inr l1)), (2, .inr (.inr 44)), (3, .inr (.inr 57)), (4, .inl l4), (5, .inl l5)]) dX0_joinHours_87 rfl (by decide) rfl ?_
            refine zr_aload_n (pc' := 90) (i := 3) dX0_joinHours_89 rfl rfl rfl ?_
            refine zr_iload (pc' := 92) dX0_joinHours_90 rfl rfl ?_
            refine zr_aload_n (pc' := 93) (i := 1) dX0_joinHours_92 rfl rfl rfl ?_
            refine zn_callV (pc' := 96) (args := []) (st := [.inl l4, .inr (.inr 57)]) (st' := fun r13 => [.inl r13, .inl l4, .inr (.inr 57)]) dX0_joinHours_93 rfl cv_X0_125 ⟨rfl, rfl, by decide, by decide⟩ rfl (is_10_pos hi1) (is_10_kd hi1) rfl rfl (Nat.le_of_ble_eq_true rfl) (fun _ => rfl) h ?_
            intro r13 M14 h
            refine zr_iload (pc' := 98) dX0_joinHours_96 rfl rfl ?_
            refine zr_isub (pc' := 99) dX0_joinHours_98 rfl ?_
            refine zn_callS (pc' := 102) (args := [.inl l4, .inl (r13 - l5)]) (st := [.inr (.inr 57)]) (st' := fun r15 => [.inl r15, .inr (.inr 57)]) dX0_joinHours_99 rfl cs_X0_167 ⟨rfl, rfl, by decide, by decide⟩ rfl rfl rfl (Nat.le_of_ble_eq_true rfl) (fun _ => rfl) h ?_
            intro r15 M16 h
            refine zr_sipush (pc' := 105) dX0_joinHours_102 rfl rfl ?_
            refine zr_iload (pc' := 107) dX0_joinHours_105 rfl rfl ?_
            refine zn_callV (pc' := 110) (args := [.inl r15, .inl 201, .inl 1000000]) (st := []) (st' := fun _ => []) dX0_joinHours_107 rfl cv_X0_171 ⟨rfl, rfl, by decide, by decide⟩ rfl ps_57 kd_57 rfl rfl (Nat.le_of_ble_eq_true rfl) (fun _ => rfl) h ?_
            intro r17 M18 h
            exact zr_return (x := 0) dX0_joinHours_110 rfl (Nat.le_refl _) (Nat.le_refl _) (And.intro rfl h)
      · have h := h.2.2 hc
        refine zr_iload (pc' := 24) dX0_joinHours_22 rfl rfl ?_
        refine zr_iload (pc' := 26) dX0_joinHours_24 rfl rfl ?_
        refine zr_iload (pc' := 28) dX0_joinHours_26 rfl rfl ?_
        refine zr_isub (pc' := 29) dX0_joinHours_28 rfl ?_
        refine zn_callS (pc' := 32) (args := [.inl l4, .inl (l6 - l5)]) (st := []) (st' := fun r19 => [.inl r19]) dX0_joinHours_29 rfl cs_X0_167 ⟨rfl, rfl, by decide, by decide⟩ rfl rfl rfl (Nat.le_of_ble_eq_true rfl) (fun _ => rfl) h ?_
        intro r19 M20 h
        refine zr_istore (pc' := 34) (al' := [(7, .inl r19), (0, .inr (.inr l0)), (1, .inr (.inr l1)), (2, .inr (.inr 44)), (3, .inr (.inr 57)), (4, .inl l4), (5, .inl l5), (6, .inl l6)]) dX0_joinHours_32 rfl (by decide) rfl ?_
        refine zr_aload_n (pc' := 35) (i := 3) dX0_joinHours_34 rfl rfl rfl ?_
        refine zr_iload (pc' := 37) dX0_joinHours_35 rfl rfl ?_
        refine zr_iload (pc' := 39) dX0_joinHours_37 rfl rfl ?_
        refine zr_iconst (pc' := 40) dX0_joinHours_39 rfl ?_
        refine zr_iadd (pc' := 41) dX0_joinHours_40 rfl ?_
        refine zr_ldc (pc' := 43) (x := 1000000) dX0_joinHours_41 rfl ci_X0_170 ?_
        refine zn_callV (pc' := 46) (args := [.inl r19, .inl (r19 + 1), .inl 1000000]) (st := []) (st' := fun _ => []) dX0_joinHours_43 rfl cv_X0_171 ⟨rfl, rfl, by decide, by decide⟩ rfl ps_57 kd_57 rfl rfl (Nat.le_of_ble_eq_true rfl) (fun _ => rfl) h ?_
        intro r21 M22 h
        refine zr_iinc (pc' := 49) (al' := [(6, .inl (l6 + 1)), (7, .inl r19), (0, .inr (.inr l0)), (1, .inr (.inr l1)), (2, .inr (.inr 44)), (3, .inr (.inr 57)), (4, .inl l4), (5, .inl l5)]) dX0_joinHours_46 rfl rfl (by decide) rfl ?_
        refine zr_goto (pc' := 10) dX0_joinHours_49 rfl ?_
        obtain ⟨n', hn, h⟩ := h
        exact zn_al ((ih n' hn) _ _ _ _ h) ⟨rfl, rfl, rfl, rfl, rfl, rfl, rfl, trivial⟩
  refine zP_of (by decide +kernel) rfl (Nat.le_of_ble_eq_true rfl) ?_
  show zA E zNN (0, 0) mX0_joinHours 0 [(0, .inr (.inr l0)), (1, .inr (.inr l1)), (2, .inr (.inr 44)), (3, .inr (.inr 57)), (4, .inl l4)] [] M (zQ Q)
  refine zr_aload_n (pc' := 1) (i := 1) dX0_joinHours_0 rfl rfl rfl ?_
  refine zn_callV (pc' := 4) (args := []) (st := []) (st' := fun r1 => [.inl r1]) dX0_joinHours_1 rfl cv_X0_164 ⟨rfl, rfl, by decide, by decide⟩ rfl (is_10_pos hi1) (is_10_kd hi1) rfl rfl (Nat.le_of_ble_eq_true rfl) (fun _ => rfl) h ?_
  intro r1 M2 h
  refine zr_istore (pc' := 6) (al' := [(5, .inl r1), (0, .inr (.inr l0)), (1, .inr (.inr l1)), (2, .inr (.inr 44)), (3, .inr (.inr 57)), (4, .inl l4)]) dX0_joinHours_4 rfl (by decide) rfl ?_
  refine zr_iload (pc' := 8) dX0_joinHours_6 rfl rfl ?_
  refine zr_istore (pc' := 10) (al' := [(6, .inl r1), (5, .inl r1), (0, .inr (.inr l0)), (1, .inr (.inr l1)), (2, .inr (.inr 44)), (3, .inr (.inr 57)), (4, .inl l4)]) dX0_joinHours_8 rfl (by decide) rfl ?_
  obtain ⟨n', h⟩ := h
  exact zn_al ((key n') _ _ _ _ h) ⟨rfl, rfl, rfl, rfl, rfl, rfl, rfl, trivial⟩
set_option maxRecDepth 20000 in
theorem vcX0_bringPeople {E : zE} {M : zM} {Q : Int → zM → Prop} (l0 l1 l4 : Int) (hi0 : zIs_0 l0) (hi1 : zIs_10 l1)
    (h : (0 ≤ l4 ∧ l4 < 8) ∧ ((zR (M 50 l4.toNat)) ∧ (((M 50 l4.toNat) = (-1) → (0 ≤ l4 ∧ l4 < 8) ∧ (zP E mX10_lastHour [.inr (.inr l1)] M (fun r1 M2 => ((zR (M (l0 + 8).toNat l4.toNat) ∧ zR r1) ∧ ((¬ (M (l0 + 8).toNat l4.toNat) = r1 → (∀ M3, M3 = zup M2 l0.toNat 8 ((M l0.toNat 8) + 0) → Q 0 M3)) ∧ ((M (l0 + 8).toNat l4.toNat) = r1 → (0 ≤ l4 ∧ l4 < 8) ∧ (∀ M4, M4 = zup M2 l0.toNat 8 ((M l0.toNat 8) + (M2 46 l4.toNat)) → Q 0 M4))))))) ∧ (¬ (M 50 l4.toNat) = (-1) → (zP E mX10_lastHour [.inr (.inr l1)] M (fun r5 M6 => ((zR (M 50 l4.toNat) ∧ zR r5) ∧ (((M 50 l4.toNat) ≤ r5 → (zP E mX10_firstHour [.inr (.inr l1)] M6 (fun r7 M8 => (zR (M 50 l4.toNat) ∧ zR r7) ∧ (0 ≤ l4 ∧ l4 < 8) ∧ ((zR (if (M 50 l4.toNat) < r7 then r7 else (M 50 l4.toNat)) ∧ zR (M8 (l0 + 8).toNat l4.toNat)) ∧ (((M8 (l0 + 8).toNat l4.toNat) < (if (M 50 l4.toNat) < r7 then r7 else (M 50 l4.toNat)) → Q 0 M8) ∧ ((if (M 50 l4.toNat) < r7 then r7 else (M 50 l4.toNat)) ≤ (M8 (l0 + 8).toNat l4.toNat) → (zP E mX10_firstHour [.inr (.inr l1)] M8 (fun r9 M10 => (zP E mX2_node [.inl l4, .inl ((if (M 50 l4.toNat) < r7 then r7 else (M 50 l4.toNat)) - r9)] M10 (fun r11 M12 => (0 ≤ l4 ∧ l4 < 8) ∧ (zP E mX2_join [.inr (.inr 57), .inl 200, .inl r11, .inl (M12 46 l4.toNat)] M12 (fun r13 M14 => Q 0 M14)))))))))))) ∧ (r5 < (M 50 l4.toNat) → (0 ≤ l4 ∧ l4 < 8) ∧ (zP E mX10_lastHour [.inr (.inr l1)] M6 (fun r15 M16 => ((zR (M6 (l0 + 8).toNat l4.toNat) ∧ zR r15) ∧ ((¬ (M6 (l0 + 8).toNat l4.toNat) = r15 → (∀ M17, M17 = zup M16 l0.toNat 8 ((M6 l0.toNat 8) + 0) → Q 0 M17)) ∧ ((M6 (l0 + 8).toNat l4.toNat) = r15 → (0 ≤ l4 ∧ l4 < 8) ∧ (∀ M18, M18 = zup M16 l0.toNat 8 ((M6 l0.toNat 8) + (M16 46 l4.toNat)) → Q 0 M18)))))))))))))))
    : zP E mX0_bringPeople [.inr (.inr l0), .inr (.inr l1), .inr (.inr 44), .inr (.inr 57), .inl l4] M Q := by
  refine zP_of (by decide +kernel) rfl (Nat.le_of_ble_eq_true rfl) ?_
  show zA E zNN (0, 0) mX0_bringPeople 0 [(0, .inr (.inr l0)), (1, .inr (.inr l1)), (2, .inr (.inr 44)), (3, .inr (.inr 57)), (4, .inl l4)] [] M (zQ Q)
  refine zr_aload_n (pc' := 1) (i := 2) dX0_bringPeople_0 rfl rfl rfl ?_
  refine zr_get (pc' := 4) dX0_bringPeople_1 rfl ps_44 kd_44 fl_X0_177 kc_3 (gv_44_5 _) ?_
  refine zr_iload (pc' := 6) dX0_bringPeople_4 rfl rfl ?_
  refine zr_iald (pc' := 7) dX0_bringPeople_6 rfl ps_50 kd_50 (by decide) h.1.1 h.1.2 ?_
  have h := h.2
  refine zr_istore (pc' := 9) (al' := [(5, .inl (M 50 l4.toNat)), (0, .inr (.inr l0)), (1, .inr (.inr l1)), (2, .inr (.inr 44)), (3, .inr (.inr 57)), (4, .inl l4)]) dX0_bringPeople_7 rfl (by decide) rfl ?_
  refine zr_iload (pc' := 11) dX0_bringPeople_9 rfl rfl ?_
  refine zr_iconst (pc' := 12) dX0_bringPeople_11 rfl ?_
  refine zr_icmp_eq (tgt := 24) (pc' := 15) dX0_bringPeople_12 rfl rfl h.1 (zRd rfl) (fun hc => ?_) (fun hc => ?_)
  · have h := h.2.1 hc
    refine zr_aload_n (pc' := 25) (i := 0) dX0_bringPeople_24 rfl rfl rfl ?_
    refine zr_dup (pc' := 26) dX0_bringPeople_25 rfl rfl ?_
    refine zr_get (pc' := 29) dX0_bringPeople_26 rfl (is_0_pos hi0) (is_0_kd hi0) fl_X0_135 kc_0 (is_0_gv_8 hi0 _) ?_
    refine zr_aload_n (pc' := 30) (i := 0) dX0_bringPeople_29 rfl rfl rfl ?_
    refine zr_get (pc' := 33) dX0_bringPeople_30 rfl (is_0_pos hi0) (is_0_kd hi0) fl_X0_39 kc_0 (is_0_gv_11 hi0 _) ?_
    refine zr_iload (pc' := 35) dX0_bringPeople_33 rfl rfl ?_
    refine zr_iald (pc' := 36) dX0_bringPeople_35 rfl (is_0_kp_11 hi0) (is_0_ka_11 hi0) (by decide) h.1.1 h.1.2 ?_
    have h := h.2
    refine zr_aload_n (pc' := 37) (i := 1) dX0_bringPeople_36 rfl rfl rfl ?_
    refine zn_callV (pc' := 40) (args := []) (st := [.inl (M (l0 + 8).toNat l4.toNat), .inl (M l0.toNat 8), .inr (.inr l0)]) (st' := fun r1 => [.inl r1, .inl (M (l0 + 8).toNat l4.toNat), .inl (M l0.toNat 8), .inr (.inr l0)]) dX0_bringPeople_37 rfl cv_X0_125 ⟨rfl, rfl, by decide, by decide⟩ rfl (is_10_pos hi1) (is_10_kd hi1) rfl rfl (Nat.le_of_ble_eq_true rfl) (fun _ => rfl) h ?_
    intro r1 M2 h
    refine zr_icmp_ne (tgt := 53) (pc' := 43) dX0_bringPeople_40 rfl rfl h.1.1 h.1.2 (fun hc => ?_) (fun hc => ?_)
    · have h := h.2.1 hc
      refine zr_iconst (pc' := 54) dX0_bringPeople_53 rfl ?_
      refine zr_iadd (pc' := 55) dX0_bringPeople_54 rfl ?_
      refine zr_put (pc' := 58) dX0_bringPeople_55 rfl (is_0_pos hi0) (is_0_kd hi0) fl_X0_135 kc_0 rfl (is_0_nf_8 hi0) rfl trivial (fun M3 hM1 => ?_)
      have h := h M3 hM1
      exact zr_return (x := 0) dX0_bringPeople_58 rfl (Nat.le_refl _) (Nat.le_refl _) (And.intro rfl h)
    · have h := h.2.2 hc
      refine zr_aload_n (pc' := 44) (i := 2) dX0_bringPeople_43 rfl rfl rfl ?_
      refine zr_get (pc' := 47) dX0_bringPeople_44 rfl ps_44 kd_44 fl_X0_180 kc_3 (gv_44_1 _) ?_
      refine zr_iload (pc' := 49) dX0_bringPeople_47 rfl rfl ?_
      refine zr_iald (pc' := 50) dX0_bringPeople_49 rfl ps_46 kd_46 (by decide) h.1.1 h.1.2 ?_
      have h := h.2
      refine zr_goto (pc' := 54) dX0_bringPeople_50 rfl ?_
      refine zr_iadd (pc' := 55) dX0_bringPeople_54 rfl ?_
      refine zr_put (pc' := 58) dX0_bringPeople_55 rfl (is_0_pos hi0) (is_0_kd hi0) fl_X0_135 kc_0 rfl (is_0_nf_8 hi0) rfl trivial (fun M4 hM1 => ?_)
      have h := h M4 hM1
      exact zr_return (x := 0) dX0_bringPeople_58 rfl (Nat.le_refl _) (Nat.le_refl _) (And.intro rfl h)
  · have h := h.2.2 hc
    refine zr_iload (pc' := 17) dX0_bringPeople_15 rfl rfl ?_
    refine zr_aload_n (pc' := 18) (i := 1) dX0_bringPeople_17 rfl rfl rfl ?_
    refine zn_callV (pc' := 21) (args := []) (st := [.inl (M 50 l4.toNat)]) (st' := fun r5 => [.inl r5, .inl (M 50 l4.toNat)]) dX0_bringPeople_18 rfl cv_X0_125 ⟨rfl, rfl, by decide, by decide⟩ rfl (is_10_pos hi1) (is_10_kd hi1) rfl rfl (Nat.le_of_ble_eq_true rfl) (fun _ => rfl) h ?_
    intro r5 M6 h
    refine zr_icmp_le (tgt := 59) (pc' := 24) dX0_bringPeople_21 rfl rfl h.1.1 h.1.2 (fun hc => ?_) (fun hc => ?_)
    · have h := h.2.1 hc
      refine zr_iload (pc' := 61) dX0_bringPeople_59 rfl rfl ?_
      refine zr_aload_n (pc' := 62) (i := 1) dX0_bringPeople_61 rfl rfl rfl ?_
      refine zn_callV (pc' := 65) (args := []) (st := [.inl (M 50 l4.toNat)]) (st' := fun r7 => [.inl r7, .inl (M 50 l4.toNat)]) dX0_bringPeople_62 rfl cv_X0_164 ⟨rfl, rfl, by decide, by decide⟩ rfl (is_10_pos hi1) (is_10_kd hi1) rfl rfl (Nat.le_of_ble_eq_true rfl) (fun _ => rfl) h ?_
      intro r7 M8 h
      refine zr_max (pc' := 68) dX0_bringPeople_65 rfl ml_X0_183.1 ml_X0_183.2.1 ml_X0_183.2.2.1 ml_X0_183.2.2.2 (by decide) (Nat.le_of_ble_eq_true rfl) (Nat.zero_le _) (Nat.zero_le _) h.1.1 h.1.2 ?_
      have h := h.2
      refine zr_istore (pc' := 70) (al' := [(6, .inl (if (M 50 l4.toNat) < r7 then r7 else (M 50 l4.toNat))), (5, .inl (M 50 l4.toNat)), (0, .inr (.inr l0)), (1, .inr (.inr l1)), (2, .inr (.inr 44)), (3, .inr (.inr 57)), (4, .inl l4)]) dX0_bringPeople_68 rfl (by decide) rfl ?_
      refine zr_iload (pc' := 72) dX0_bringPeople_70 rfl rfl ?_
      refine zr_aload_n (pc' := 73) (i := 0) dX0_bringPeople_72 rfl rfl rfl ?_
      refine zr_get (pc' := 76) dX0_bringPeople_73 rfl (is_0_pos hi0) (is_0_kd hi0) fl_X0_39 kc_0 (is_0_gv_11 hi0 _) ?_
      refine zr_iload (pc' := 78) dX0_bringPeople_76 rfl rfl ?_
      refine zr_iald (pc' := 79) dX0_bringPeople_78 rfl (is_0_kp_11 hi0) (is_0_ka_11 hi0) (by decide) h.1.1 h.1.2 ?_
      have h := h.2
      refine zr_icmp_gt (tgt := 112) (pc' := 82) dX0_bringPeople_79 rfl rfl h.1.1 h.1.2 (fun hc => ?_) (fun hc => ?_)
      · have h := h.2.1 hc
        exact zr_return (x := 0) dX0_bringPeople_112 rfl (Nat.le_refl _) (Nat.le_refl _) (And.intro rfl h)
      · have h := h.2.2 hc
        refine zr_iload (pc' := 84) dX0_bringPeople_82 rfl rfl ?_
        refine zr_iload (pc' := 86) dX0_bringPeople_84 rfl rfl ?_
        refine zr_aload_n (pc' := 87) (i := 1) dX0_bringPeople_86 rfl rfl rfl ?_
        refine zn_callV (pc' := 90) (args := []) (st := [.inl (if (M 50 l4.toNat) < r7 then r7 else (M 50 l4.toNat)), .inl l4]) (st' := fun r9 => [.inl r9, .inl (if (M 50 l4.toNat) < r7 then r7 else (M 50 l4.toNat)), .inl l4]) dX0_bringPeople_87 rfl cv_X0_164 ⟨rfl, rfl, by decide, by decide⟩ rfl (is_10_pos hi1) (is_10_kd hi1) rfl rfl (Nat.le_of_ble_eq_true rfl) (fun _ => rfl) h ?_
        intro r9 M10 h
        refine zr_isub (pc' := 91) dX0_bringPeople_90 rfl ?_
        refine zn_callS (pc' := 94) (args := [.inl l4, .inl ((if (M 50 l4.toNat) < r7 then r7 else (M 50 l4.toNat)) - r9)]) (st := []) (st' := fun r11 => [.inl r11]) dX0_bringPeople_91 rfl cs_X0_167 ⟨rfl, rfl, by decide, by decide⟩ rfl rfl rfl (Nat.le_of_ble_eq_true rfl) (fun _ => rfl) h ?_
        intro r11 M12 h
        refine zr_istore (pc' := 96) (al' := [(7, .inl r11), (6, .inl (if (M 50 l4.toNat) < r7 then r7 else (M 50 l4.toNat))), (5, .inl (M 50 l4.toNat)), (0, .inr (.inr l0)), (1, .inr (.inr l1)), (2, .inr (.inr 44)), (3, .inr (.inr 57)), (4, .inl l4)]) dX0_bringPeople_94 rfl (by decide) rfl ?_
        refine zr_aload_n (pc' := 97) (i := 3) dX0_bringPeople_96 rfl rfl rfl ?_
        refine zr_sipush (pc' := 100) dX0_bringPeople_97 rfl rfl ?_
        refine zr_iload (pc' := 102) dX0_bringPeople_100 rfl rfl ?_
        refine zr_aload_n (pc' := 103) (i := 2) dX0_bringPeople_102 rfl rfl rfl ?_
        refine zr_get (pc' := 106) dX0_bringPeople_103 rfl ps_44 kd_44 fl_X0_180 kc_3 (gv_44_1 _) ?_
        refine zr_iload (pc' := 108) dX0_bringPeople_106 rfl rfl ?_
        refine zr_iald (pc' := 109) dX0_bringPeople_108 rfl ps_46 kd_46 (by decide) h.1.1 h.1.2 ?_
        have h := h.2
        refine zn_callV (pc' := 112) (args := [.inl 200, .inl r11, .inl (M12 46 l4.toNat)]) (st := []) (st' := fun _ => []) dX0_bringPeople_109 rfl cv_X0_171 ⟨rfl, rfl, by decide, by decide⟩ rfl ps_57 kd_57 rfl rfl (Nat.le_of_ble_eq_true rfl) (fun _ => rfl) h ?_
        intro r13 M14 h
        exact zr_return (x := 0) dX0_bringPeople_112 rfl (Nat.le_refl _) (Nat.le_refl _) (And.intro rfl h)
    · have h := h.2.2 hc
      refine zr_aload_n (pc' := 25) (i := 0) dX0_bringPeople_24 rfl rfl rfl ?_
      refine zr_dup (pc' := 26) dX0_bringPeople_25 rfl rfl ?_
      refine zr_get (pc' := 29) dX0_bringPeople_26 rfl (is_0_pos hi0) (is_0_kd hi0) fl_X0_135 kc_0 (is_0_gv_8 hi0 _) ?_
      refine zr_aload_n (pc' := 30) (i := 0) dX0_bringPeople_29 rfl rfl rfl ?_
      refine zr_get (pc' := 33) dX0_bringPeople_30 rfl (is_0_pos hi0) (is_0_kd hi0) fl_X0_39 kc_0 (is_0_gv_11 hi0 _) ?_
      refine zr_iload (pc' := 35) dX0_bringPeople_33 rfl rfl ?_
      refine zr_iald (pc' := 36) dX0_bringPeople_35 rfl (is_0_kp_11 hi0) (is_0_ka_11 hi0) (by decide) h.1.1 h.1.2 ?_
      have h := h.2
      refine zr_aload_n (pc' := 37) (i := 1) dX0_bringPeople_36 rfl rfl rfl ?_
      refine zn_callV (pc' := 40) (args := []) (st := [.inl (M6 (l0 + 8).toNat l4.toNat), .inl (M6 l0.toNat 8), .inr (.inr l0)]) (st' := fun r15 => [.inl r15, .inl (M6 (l0 + 8).toNat l4.toNat), .inl (M6 l0.toNat 8), .inr (.inr l0)]) dX0_bringPeople_37 rfl cv_X0_125 ⟨rfl, rfl, by decide, by decide⟩ rfl (is_10_pos hi1) (is_10_kd hi1) rfl rfl (Nat.le_of_ble_eq_true rfl) (fun _ => rfl) h ?_
      intro r15 M16 h
      refine zr_icmp_ne (tgt := 53) (pc' := 43) dX0_bringPeople_40 rfl rfl h.1.1 h.1.2 (fun hc => ?_) (fun hc => ?_)
      · have h := h.2.1 hc
        refine zr_iconst (pc' := 54) dX0_bringPeople_53 rfl ?_
        refine zr_iadd (pc' := 55) dX0_bringPeople_54 rfl ?_
        refine zr_put (pc' := 58) dX0_bringPeople_55 rfl (is_0_pos hi0) (is_0_kd hi0) fl_X0_135 kc_0 rfl (is_0_nf_8 hi0) rfl trivial (fun M17 hM1 => ?_)
        have h := h M17 hM1
        exact zr_return (x := 0) dX0_bringPeople_58 rfl (Nat.le_refl _) (Nat.le_refl _) (And.intro rfl h)
      · have h := h.2.2 hc
        refine zr_aload_n (pc' := 44) (i := 2) dX0_bringPeople_43 rfl rfl rfl ?_
        refine zr_get (pc' := 47) dX0_bringPeople_44 rfl ps_44 kd_44 fl_X0_180 kc_3 (gv_44_1 _) ?_
        refine zr_iload (pc' := 49) dX0_bringPeople_47 rfl rfl ?_
        refine zr_iald (pc' := 50) dX0_bringPeople_49 rfl ps_46 kd_46 (by decide) h.1.1 h.1.2 ?_
        have h := h.2
        refine zr_goto (pc' := 54) dX0_bringPeople_50 rfl ?_
        refine zr_iadd (pc' := 55) dX0_bringPeople_54 rfl ?_
        refine zr_put (pc' := 58) dX0_bringPeople_55 rfl (is_0_pos hi0) (is_0_kd hi0) fl_X0_135 kc_0 rfl (is_0_nf_8 hi0) rfl trivial (fun M18 hM1 => ?_)
        have h := h M18 hM1
        exact zr_return (x := 0) dX0_bringPeople_58 rfl (Nat.le_refl _) (Nat.le_refl _) (And.intro rfl h)
set_option maxRecDepth 20000 in
theorem vcX0_joinByRoad {E : zE} {M : zM} {Q : Int → zM → Prop} (l0 l1 l4 : Int) (hi0 : zIs_0 l0) (hi1 : zIs_10 l1) (I78 : Nat → Int → Int → Int → Int → Int → Int → Int → zM → Prop)
    (h : (zP E mX10_firstHour [.inr (.inr l1)] M (fun r1 M2 => (0 ≤ l4 ∧ l4 < 14) ∧ (0 ≤ l4 ∧ l4 < 14) ∧ (0 ≤ l4 ∧ l4 < 14) ∧ (0 ≤ l4 ∧ l4 < 14) ∧ (zP E mX0_openTill [.inr (.inr l0), .inr (.inr l1), .inl (M2 56 l4.toNat)] M2 (fun r3 M4 => (0 ≤ M2 52 l4.toNat ∧ M2 52 l4.toNat < 8) ∧ (zR r3 ∧ zR (M4 (l0 + 8).toNat ((M2 52 l4.toNat).toNat))) ∧ (0 ≤ M2 51 l4.toNat ∧ M2 51 l4.toNat < 8) ∧ (zR (M4 (l0 + 8).toNat ((M2 51 l4.toNat).toNat)) ∧ zR ((if (M4 (l0 + 8).toNat ((M2 52 l4.toNat).toNat)) < r3 then (M4 (l0 + 8).toNat ((M2 52 l4.toNat).toNat)) else r3) - (M2 53 l4.toNat))) ∧ ∃ n', I78 n' l4 r1 (M2 53 l4.toNat) (M2 51 l4.toNat) (M2 52 l4.toNat) (if ((if (M4 (l0 + 8).toNat ((M2 52 l4.toNat).toNat)) < r3 then (M4 (l0 + 8).toNat ((M2 52 l4.toNat).toNat)) else r3) - (M2 53 l4.toNat)) < (M4 (l0 + 8).toNat ((M2 51 l4.toNat).toNat)) then ((if (M4 (l0 + 8).toNat ((M2 52 l4.toNat).toNat)) < r3 then (M4 (l0 + 8).toNat ((M2 52 l4.toNat).toNat)) else r3) - (M2 53 l4.toNat)) else (M4 (l0 + 8).toNat ((M2 51 l4.toNat).toNat))) r1 M4)))))
    (h78 : ∀ (n : Nat) (l4 l5 l6 l7 l8 l10 l11 : Int) (M : zM), I78 n l4 l5 l6 l7 l8 l10 l11 M → ((zR l11 ∧ zR l10) ∧ ((l10 < l11 → Q 0 M) ∧ (l11 ≤ l10 → (zP E mX3_leavesIn [.inr (.inr 44), .inl l4, .inl l11] M (fun r5 M6 => ((zR r5) ∧ ((r5 = 0 → ∃ n', n' < n ∧ I78 n' l4 l5 l6 l7 l8 l10 (l11 + 1) M6) ∧ (¬ r5 = 0 → (zP E mX2_node [.inl l7, .inl (l11 - l5)] M6 (fun r7 M8 => (zP E mX2_node [.inl l8, .inl ((l11 + l6) - l5)] M8 (fun r9 M10 => (0 ≤ l4 ∧ l4 < 14) ∧ (zP E mX2_join [.inr (.inr 57), .inl r7, .inl r9, .inl (M10 54 l4.toNat)] M10 (fun r11 M12 => ∃ n', n' < n ∧ I78 n' l4 l5 l6 l7 l8 l10 (l11 + 1) M12)))))))))))))))
    : zP E mX0_joinByRoad [.inr (.inr l0), .inr (.inr l1), .inr (.inr 44), .inr (.inr 57), .inl l4] M Q := by
  have key : ∀ n : Nat, (∀ (l4 l5 l6 l7 l8 l10 l11 : Int) (M : zM), I78 n l4 l5 l6 l7 l8 l10 l11 M → zA E zNN (0, 0) mX0_joinByRoad 78 [(2, .inr (.inr 44)), (3, .inr (.inr 57)), (4, .inl l4), (5, .inl l5), (6, .inl l6), (7, .inl l7), (8, .inl l8), (10, .inl l10), (11, .inl l11)] [] M (zQ Q)) := by
    intro n
    induction n using Nat.strongRecOn with
    | ind n ih =>
      intro l4 l5 l6 l7 l8 l10 l11 M h
      have h := h78 n l4 l5 l6 l7 l8 l10 l11 M h
      refine zr_iload (pc' := 80) dX0_joinByRoad_78 rfl rfl ?_
      refine zr_iload (pc' := 82) dX0_joinByRoad_80 rfl rfl ?_
      refine zr_icmp_gt (tgt := 140) (pc' := 85) dX0_joinByRoad_82 rfl rfl h.1.1 h.1.2 (fun hc => ?_) (fun hc => ?_)
      · have h := h.2.1 hc
        exact zr_return (x := 0) dX0_joinByRoad_140 rfl (Nat.le_refl _) (Nat.le_refl _) (And.intro rfl h)
      · have h := h.2.2 hc
        refine zr_aload_n (pc' := 86) (i := 2) dX0_joinByRoad_85 rfl rfl rfl ?_
        refine zr_iload (pc' := 88) dX0_joinByRoad_86 rfl rfl ?_
        refine zr_iload (pc' := 90) dX0_joinByRoad_88 rfl rfl ?_
        refine zn_callV (pc' := 93) (args := [.inl l4, .inl l11]) (st := []) (st' := fun r5 => [.inl r5]) dX0_joinByRoad_90 rfl cv_X0_195 ⟨rfl, rfl, by decide, by decide⟩ rfl ps_44 kd_44 rfl rfl (Nat.le_of_ble_eq_true rfl) (fun _ => rfl) h ?_
        intro r5 M6 h
        refine zr_if_eq (tgt := 134) (pc' := 96) dX0_joinByRoad_93 rfl rfl h.1 (fun hc => ?_) (fun hc => ?_)
        · have h := h.2.1 hc
          refine zr_iinc (pc' := 137) (al' := [(11, .inl (l11 + 1)), (2, .inr (.inr 44)), (3, .inr (.inr 57)), (4, .inl l4), (5, .inl l5), (6, .inl l6), (7, .inl l7), (8, .inl l8), (10, .inl l10)]) dX0_joinByRoad_134 rfl rfl (by decide) rfl ?_
          refine zr_goto (pc' := 78) dX0_joinByRoad_137 rfl ?_
          obtain ⟨n', hn, h⟩ := h
          exact zn_al ((ih n' hn) _ _ _ _ _ _ _ _ h) ⟨rfl, rfl, rfl, rfl, rfl, rfl, rfl, rfl, rfl, trivial⟩
        · have h := h.2.2 hc
          refine zr_iload (pc' := 98) dX0_joinByRoad_96 rfl rfl ?_
          refine zr_iload (pc' := 100) dX0_joinByRoad_98 rfl rfl ?_
          refine zr_iload (pc' := 102) dX0_joinByRoad_100 rfl rfl ?_
          refine zr_isub (pc' := 103) dX0_joinByRoad_102 rfl ?_
          refine zn_callS (pc' := 106) (args := [.inl l7, .inl (l11 - l5)]) (st := []) (st' := fun r7 => [.inl r7]) dX0_joinByRoad_103 rfl cs_X0_167 ⟨rfl, rfl, by decide, by decide⟩ rfl rfl rfl (Nat.le_of_ble_eq_true rfl) (fun _ => rfl) h ?_
          intro r7 M8 h
          refine zr_istore (pc' := 108) (al' := [(12, .inl r7), (2, .inr (.inr 44)), (3, .inr (.inr 57)), (4, .inl l4), (5, .inl l5), (6, .inl l6), (7, .inl l7), (8, .inl l8), (10, .inl l10), (11, .inl l11)]) dX0_joinByRoad_106 rfl (by decide) rfl ?_
          refine zr_aload_n (pc' := 109) (i := 3) dX0_joinByRoad_108 rfl rfl rfl ?_
          refine zr_iload (pc' := 111) dX0_joinByRoad_109 rfl rfl ?_
          refine zr_iload (pc' := 113) dX0_joinByRoad_111 rfl rfl ?_
          refine zr_iload (pc' := 115) dX0_joinByRoad_113 rfl rfl ?_
          refine zr_iload (pc' := 117) dX0_joinByRoad_115 rfl rfl ?_
          refine zr_iadd (pc' := 118) dX0_joinByRoad_117 rfl ?_
          refine zr_iload (pc' := 120) dX0_joinByRoad_118 rfl rfl ?_
          refine zr_isub (pc' := 121) dX0_joinByRoad_120 rfl ?_
          refine zn_callS (pc' := 124) (args := [.inl l8, .inl ((l11 + l6) - l5)]) (st := [.inl r7, .inr (.inr 57)]) (st' := fun r9 => [.inl r9, .inl r7, .inr (.inr 57)]) dX0_joinByRoad_121 rfl cs_X0_167 ⟨rfl, rfl, by decide, by decide⟩ rfl rfl rfl (Nat.le_of_ble_eq_true rfl) (fun _ => rfl) h ?_
          intro r9 M10 h
          refine zr_aload_n (pc' := 125) (i := 2) dX0_joinByRoad_124 rfl rfl rfl ?_
          refine zr_get (pc' := 128) dX0_joinByRoad_125 rfl ps_44 kd_44 fl_X0_199 kc_3 (gv_44_10 _) ?_
          refine zr_iload (pc' := 130) dX0_joinByRoad_128 rfl rfl ?_
          refine zr_iald (pc' := 131) dX0_joinByRoad_130 rfl ps_54 kd_54 (by decide) h.1.1 h.1.2 ?_
          have h := h.2
          refine zn_callV (pc' := 134) (args := [.inl r7, .inl r9, .inl (M10 54 l4.toNat)]) (st := []) (st' := fun _ => []) dX0_joinByRoad_131 rfl cv_X0_171 ⟨rfl, rfl, by decide, by decide⟩ rfl ps_57 kd_57 rfl rfl (Nat.le_of_ble_eq_true rfl) (fun _ => rfl) h ?_
          intro r11 M12 h
          refine zr_iinc (pc' := 137) (al' := [(11, .inl (l11 + 1)), (12, .inl r7), (2, .inr (.inr 44)), (3, .inr (.inr 57)), (4, .inl l4), (5, .inl l5), (6, .inl l6), (7, .inl l7), (8, .inl l8), (10, .inl l10)]) dX0_joinByRoad_134 rfl rfl (by decide) rfl ?_
          refine zr_goto (pc' := 78) dX0_joinByRoad_137 rfl ?_
          obtain ⟨n', hn, h⟩ := h
          exact zn_al ((ih n' hn) _ _ _ _ _ _ _ _ h) ⟨rfl, rfl, rfl, rfl, rfl, rfl, rfl, rfl, rfl, trivial⟩
  refine zP_of (by decide +kernel) rfl (Nat.le_of_ble_eq_true rfl) ?_
  show zA E zNN (0, 0) mX0_joinByRoad 0 [(0, .inr (.inr l0)), (1, .inr (.inr l1)), (2, .inr (.inr 44)), (3, .inr (.inr 57)), (4, .inl l4)] [] M (zQ Q)
  refine zr_aload_n (pc' := 1) (i := 1) dX0_joinByRoad_0 rfl rfl rfl ?_
  refine zn_callV (pc' := 4) (args := []) (st := []) (st' := fun r1 => [.inl r1]) dX0_joinByRoad_1 rfl cv_X0_164 ⟨rfl, rfl, by decide, by decide⟩ rfl (is_10_pos hi1) (is_10_kd hi1) rfl rfl (Nat.le_of_ble_eq_true rfl) (fun _ => rfl) h ?_
  intro r1 M2 h
  refine zr_istore (pc' := 6) (al' := [(5, .inl r1), (0, .inr (.inr l0)), (1, .inr (.inr l1)), (2, .inr (.inr 44)), (3, .inr (.inr 57)), (4, .inl l4)]) dX0_joinByRoad_4 rfl (by decide) rfl ?_
  refine zr_aload_n (pc' := 7) (i := 2) dX0_joinByRoad_6 rfl rfl rfl ?_
  refine zr_get (pc' := 10) dX0_joinByRoad_7 rfl ps_44 kd_44 fl_X0_186 kc_3 (gv_44_9 _) ?_
  refine zr_iload (pc' := 12) dX0_joinByRoad_10 rfl rfl ?_
  refine zr_iald (pc' := 13) dX0_joinByRoad_12 rfl ps_53 kd_53 (by decide) h.1.1 h.1.2 ?_
  have h := h.2
  refine zr_istore (pc' := 15) (al' := [(6, .inl (M2 53 l4.toNat)), (5, .inl r1), (0, .inr (.inr l0)), (1, .inr (.inr l1)), (2, .inr (.inr 44)), (3, .inr (.inr 57)), (4, .inl l4)]) dX0_joinByRoad_13 rfl (by decide) rfl ?_
  refine zr_aload_n (pc' := 16) (i := 2) dX0_joinByRoad_15 rfl rfl rfl ?_
  refine zr_get (pc' := 19) dX0_joinByRoad_16 rfl ps_44 kd_44 fl_X0_189 kc_3 (gv_44_7 _) ?_
  refine zr_iload (pc' := 21) dX0_joinByRoad_19 rfl rfl ?_
  refine zr_iald (pc' := 22) dX0_joinByRoad_21 rfl ps_51 kd_51 (by decide) h.1.1 h.1.2 ?_
  have h := h.2
  refine zr_istore (pc' := 24) (al' := [(7, .inl (M2 51 l4.toNat)), (6, .inl (M2 53 l4.toNat)), (5, .inl r1), (0, .inr (.inr l0)), (1, .inr (.inr l1)), (2, .inr (.inr 44)), (3, .inr (.inr 57)), (4, .inl l4)]) dX0_joinByRoad_22 rfl (by decide) rfl ?_
  refine zr_aload_n (pc' := 25) (i := 2) dX0_joinByRoad_24 rfl rfl rfl ?_
  refine zr_get (pc' := 28) dX0_joinByRoad_25 rfl ps_44 kd_44 fl_X0_192 kc_3 (gv_44_8 _) ?_
  refine zr_iload (pc' := 30) dX0_joinByRoad_28 rfl rfl ?_
  refine zr_iald (pc' := 31) dX0_joinByRoad_30 rfl ps_52 kd_52 (by decide) h.1.1 h.1.2 ?_
  have h := h.2
  refine zr_istore (pc' := 33) (al' := [(8, .inl (M2 52 l4.toNat)), (7, .inl (M2 51 l4.toNat)), (6, .inl (M2 53 l4.toNat)), (5, .inl r1), (0, .inr (.inr l0)), (1, .inr (.inr l1)), (2, .inr (.inr 44)), (3, .inr (.inr 57)), (4, .inl l4)]) dX0_joinByRoad_31 rfl (by decide) rfl ?_
  refine zr_aload_n (pc' := 34) (i := 0) dX0_joinByRoad_33 rfl rfl rfl ?_
  refine zr_aload_n (pc' := 35) (i := 1) dX0_joinByRoad_34 rfl rfl rfl ?_
  refine zr_aload_n (pc' := 36) (i := 2) dX0_joinByRoad_35 rfl rfl rfl ?_
  refine zr_get (pc' := 39) dX0_joinByRoad_36 rfl ps_44 kd_44 fl_X0_122 kc_3 (gv_44_12 _) ?_
  refine zr_iload (pc' := 41) dX0_joinByRoad_39 rfl rfl ?_
  refine zr_iald (pc' := 42) dX0_joinByRoad_41 rfl ps_56 kd_56 (by decide) h.1.1 h.1.2 ?_
  have h := h.2
  refine zn_callV (pc' := 45) (args := [.inr (.inr l1), .inl (M2 56 l4.toNat)]) (st := []) (st' := fun r3 => [.inl r3]) dX0_joinByRoad_42 rfl cv_X0_138 ⟨rfl, rfl, by decide, by decide⟩ rfl (is_0_pos hi0) (is_0_kd hi0) rfl rfl (Nat.le_of_ble_eq_true rfl) (fun _ => rfl) h ?_
  intro r3 M4 h
  refine zr_aload_n (pc' := 46) (i := 0) dX0_joinByRoad_45 rfl rfl rfl ?_
  refine zr_get (pc' := 49) dX0_joinByRoad_46 rfl (is_0_pos hi0) (is_0_kd hi0) fl_X0_39 kc_0 (is_0_gv_11 hi0 _) ?_
  refine zr_iload (pc' := 51) dX0_joinByRoad_49 rfl rfl ?_
  refine zr_iald (pc' := 52) dX0_joinByRoad_51 rfl (is_0_kp_11 hi0) (is_0_ka_11 hi0) (by decide) h.1.1 h.1.2 ?_
  have h := h.2
  refine zr_min (pc' := 55) dX0_joinByRoad_52 rfl ml_X0_98.1 ml_X0_98.2.1 ml_X0_98.2.2.1 ml_X0_98.2.2.2 (by decide) (Nat.le_of_ble_eq_true rfl) (Nat.zero_le _) (Nat.zero_le _) h.1.1 h.1.2 ?_
  have h := h.2
  refine zr_istore (pc' := 57) (al' := [(9, .inl (if (M4 (l0 + 8).toNat ((M2 52 l4.toNat).toNat)) < r3 then (M4 (l0 + 8).toNat ((M2 52 l4.toNat).toNat)) else r3)), (8, .inl (M2 52 l4.toNat)), (7, .inl (M2 51 l4.toNat)), (6, .inl (M2 53 l4.toNat)), (5, .inl r1), (0, .inr (.inr l0)), (1, .inr (.inr l1)), (2, .inr (.inr 44)), (3, .inr (.inr 57)), (4, .inl l4)]) dX0_joinByRoad_55 rfl (by decide) rfl ?_
  refine zr_aload_n (pc' := 58) (i := 0) dX0_joinByRoad_57 rfl rfl rfl ?_
  refine zr_get (pc' := 61) dX0_joinByRoad_58 rfl (is_0_pos hi0) (is_0_kd hi0) fl_X0_39 kc_0 (is_0_gv_11 hi0 _) ?_
  refine zr_iload (pc' := 63) dX0_joinByRoad_61 rfl rfl ?_
  refine zr_iald (pc' := 64) dX0_joinByRoad_63 rfl (is_0_kp_11 hi0) (is_0_ka_11 hi0) (by decide) h.1.1 h.1.2 ?_
  have h := h.2
  refine zr_iload (pc' := 66) dX0_joinByRoad_64 rfl rfl ?_
  refine zr_iload (pc' := 68) dX0_joinByRoad_66 rfl rfl ?_
  refine zr_isub (pc' := 69) dX0_joinByRoad_68 rfl ?_
  refine zr_min (pc' := 72) dX0_joinByRoad_69 rfl ml_X0_98.1 ml_X0_98.2.1 ml_X0_98.2.2.1 ml_X0_98.2.2.2 (by decide) (Nat.le_of_ble_eq_true rfl) (Nat.zero_le _) (Nat.zero_le _) h.1.1 h.1.2 ?_
  have h := h.2
  refine zr_istore (pc' := 74) (al' := [(10, .inl (if ((if (M4 (l0 + 8).toNat ((M2 52 l4.toNat).toNat)) < r3 then (M4 (l0 + 8).toNat ((M2 52 l4.toNat).toNat)) else r3) - (M2 53 l4.toNat)) < (M4 (l0 + 8).toNat ((M2 51 l4.toNat).toNat)) then ((if (M4 (l0 + 8).toNat ((M2 52 l4.toNat).toNat)) < r3 then (M4 (l0 + 8).toNat ((M2 52 l4.toNat).toNat)) else r3) - (M2 53 l4.toNat)) else (M4 (l0 + 8).toNat ((M2 51 l4.toNat).toNat)))), (9, .inl (if (M4 (l0 + 8).toNat ((M2 52 l4.toNat).toNat)) < r3 then (M4 (l0 + 8).toNat ((M2 52 l4.toNat).toNat)) else r3)), (8, .inl (M2 52 l4.toNat)), (7, .inl (M2 51 l4.toNat)), (6, .inl (M2 53 l4.toNat)), (5, .inl r1), (0, .inr (.inr l0)), (1, .inr (.inr l1)), (2, .inr (.inr 44)), (3, .inr (.inr 57)), (4, .inl l4)]) dX0_joinByRoad_72 rfl (by decide) rfl ?_
  refine zr_iload (pc' := 76) dX0_joinByRoad_74 rfl rfl ?_
  refine zr_istore (pc' := 78) (al' := [(11, .inl r1), (10, .inl (if ((if (M4 (l0 + 8).toNat ((M2 52 l4.toNat).toNat)) < r3 then (M4 (l0 + 8).toNat ((M2 52 l4.toNat).toNat)) else r3) - (M2 53 l4.toNat)) < (M4 (l0 + 8).toNat ((M2 51 l4.toNat).toNat)) then ((if (M4 (l0 + 8).toNat ((M2 52 l4.toNat).toNat)) < r3 then (M4 (l0 + 8).toNat ((M2 52 l4.toNat).toNat)) else r3) - (M2 53 l4.toNat)) else (M4 (l0 + 8).toNat ((M2 51 l4.toNat).toNat)))), (9, .inl (if (M4 (l0 + 8).toNat ((M2 52 l4.toNat).toNat)) < r3 then (M4 (l0 + 8).toNat ((M2 52 l4.toNat).toNat)) else r3)), (8, .inl (M2 52 l4.toNat)), (7, .inl (M2 51 l4.toNat)), (6, .inl (M2 53 l4.toNat)), (5, .inl r1), (0, .inr (.inr l0)), (1, .inr (.inr l1)), (2, .inr (.inr 44)), (3, .inr (.inr 57)), (4, .inl l4)]) dX0_joinByRoad_76 rfl (by decide) rfl ?_
  obtain ⟨n', h⟩ := h
  exact zn_al ((key n') _ _ _ _ _ _ _ _ h) ⟨rfl, rfl, rfl, rfl, rfl, rfl, rfl, rfl, rfl, trivial⟩
set_option maxRecDepth 20000 in
theorem vcX1_lay {E : zE} {M : zM} {Q : Int → zM → Prop} (l1 l2 : Int)
    (h : (zP E mX11_within [.inl l1, .inl 2, .inl 8] M (fun r1 M2 => ((zR r1) ∧ ((r1 = 0 → Q 0 M2) ∧ (¬ r1 = 0 → (zP E mX11_within [.inl l2, .inl 2, .inl 8] M2 (fun r3 M4 => ((zR r3) ∧ ((¬ r3 = 0 → (∀ M5, M5 = zup M4 28 0 l1 → (∀ M6, M6 = zup M5 28 1 (l1 * l2) → (∀ M7, M7 = zfill M6 29 64 0 → (∀ M8, M8 = zfill M7 30 64 0 → (∀ M9, M9 = zfill M8 31 64 0 → (∀ M10, M10 = zup M9 28 5 0 → (∀ M11, M11 = zup M10 28 7 0 → Q 1 M11)))))))) ∧ (r3 = 0 → Q 0 M4)))))))))))
    : zP E mX1_lay [.inr (.inr 28), .inl l1, .inl l2] M Q := by
  refine zP_of (by decide +kernel) rfl (Nat.le_of_ble_eq_true rfl) ?_
  show zA E zNN (0, 0) mX1_lay 0 [(0, .inr (.inr 28)), (1, .inl l1), (2, .inl l2)] [] M (zQ Q)
  refine zr_iload_n (pc' := 1) (i := 1) dX1_lay_0 rfl rfl rfl ?_
  refine zr_iconst (pc' := 2) dX1_lay_1 rfl ?_
  refine zr_bipush (pc' := 4) dX1_lay_2 rfl rfl ?_
  refine zn_callSN (pc' := 7) (args := [.inl l1, .inl 2, .inl 8]) (st := []) (st' := fun r1 => [.inl r1]) dX1_lay_4 rfl cs_X1_31 ⟨rfl, rfl, by decide, by decide⟩ rfl rfl rfl (Nat.le_of_ble_eq_true rfl) (fun _ => rfl) h ?_
  intro r1 M2 h
  refine zr_if_eq (tgt := 20) (pc' := 10) dX1_lay_7 rfl rfl h.1 (fun hc => ?_) (fun hc => ?_)
  · have h := h.2.1 hc
    refine zr_iconst (pc' := 21) dX1_lay_20 rfl ?_
    exact zr_ireturn dX1_lay_21 rfl rfl (Or.inl rfl) (Nat.le_refl _) (Nat.le_refl _) (And.intro rfl h)
  · have h := h.2.2 hc
    refine zr_iload_n (pc' := 11) (i := 2) dX1_lay_10 rfl rfl rfl ?_
    refine zr_iconst (pc' := 12) dX1_lay_11 rfl ?_
    refine zr_bipush (pc' := 14) dX1_lay_12 rfl rfl ?_
    refine zn_callSN (pc' := 17) (args := [.inl l2, .inl 2, .inl 8]) (st := []) (st' := fun r3 => [.inl r3]) dX1_lay_14 rfl cs_X1_31 ⟨rfl, rfl, by decide, by decide⟩ rfl rfl rfl (Nat.le_of_ble_eq_true rfl) (fun _ => rfl) h ?_
    intro r3 M4 h
    refine zr_if_ne (tgt := 22) (pc' := 20) dX1_lay_17 rfl rfl h.1 (fun hc => ?_) (fun hc => ?_)
    · have h := h.2.1 hc
      refine zr_aload_n (pc' := 23) (i := 0) dX1_lay_22 rfl rfl rfl ?_
      refine zr_iload_n (pc' := 24) (i := 1) dX1_lay_23 rfl rfl rfl ?_
      refine zr_put (pc' := 27) dX1_lay_24 rfl ps_28 kd_28 fl_X1_9 kc_1 rfl nf_28_0 rfl trivial (fun M5 hM1 => ?_)
      have h := h M5 hM1
      refine zr_aload_n (pc' := 28) (i := 0) dX1_lay_27 rfl rfl rfl ?_
      refine zr_iload_n (pc' := 29) (i := 1) dX1_lay_28 rfl rfl rfl ?_
      refine zr_iload_n (pc' := 30) (i := 2) dX1_lay_29 rfl rfl rfl ?_
      refine zr_imul (pc' := 31) dX1_lay_30 rfl ?_
      refine zr_put (pc' := 34) dX1_lay_31 rfl ps_28 kd_28 fl_X1_15 kc_1 rfl nf_28_1 rfl trivial (fun M6 hM1 => ?_)
      have h := h M6 hM1
      refine zr_aload_n (pc' := 35) (i := 0) dX1_lay_34 rfl rfl rfl ?_
      refine zr_get (pc' := 38) dX1_lay_35 rfl ps_28 kd_28 fl_X1_18 kc_1 (gv_28_2 _) ?_
      refine zr_iconst (pc' := 39) dX1_lay_38 rfl ?_
      refine zn_callS (pc' := 42) (args := [.inr (.inr 29), .inl 0]) (st := []) (st' := fun _ => []) dX1_lay_39 rfl cs_X1_35 ⟨rfl, rfl, by decide, by decide⟩ rfl rfl rfl (Nat.le_of_ble_eq_true rfl) (fun _ => rfl) (s_fill ps_29 kd_29 (by decide)) ?_
      intro _ M7 hM1
      have h := h M7 hM1
      refine zr_aload_n (pc' := 43) (i := 0) dX1_lay_42 rfl rfl rfl ?_
      refine zr_get (pc' := 46) dX1_lay_43 rfl ps_28 kd_28 fl_X1_22 kc_1 (gv_28_3 _) ?_
      refine zr_iconst (pc' := 47) dX1_lay_46 rfl ?_
      refine zn_callS (pc' := 50) (args := [.inr (.inr 30), .inl 0]) (st := []) (st' := fun _ => []) dX1_lay_47 rfl cs_X1_35 ⟨rfl, rfl, by decide, by decide⟩ rfl rfl rfl (Nat.le_of_ble_eq_true rfl) (fun _ => rfl) (s_fill ps_30 kd_30 (by decide)) ?_
      intro _ M8 hM1
      have h := h M8 hM1
      refine zr_aload_n (pc' := 51) (i := 0) dX1_lay_50 rfl rfl rfl ?_
      refine zr_get (pc' := 54) dX1_lay_51 rfl ps_28 kd_28 fl_X1_25 kc_1 (gv_28_4 _) ?_
      refine zr_iconst (pc' := 55) dX1_lay_54 rfl ?_
      refine zn_callS (pc' := 58) (args := [.inr (.inr 31), .inl 0]) (st := []) (st' := fun _ => []) dX1_lay_55 rfl cs_X1_35 ⟨rfl, rfl, by decide, by decide⟩ rfl rfl rfl (Nat.le_of_ble_eq_true rfl) (fun _ => rfl) (s_fill ps_31 kd_31 (by decide)) ?_
      intro _ M9 hM1
      have h := h M9 hM1
      refine zr_aload_n (pc' := 59) (i := 0) dX1_lay_58 rfl rfl rfl ?_
      refine zr_iconst (pc' := 60) dX1_lay_59 rfl ?_
      refine zr_put (pc' := 63) dX1_lay_60 rfl ps_28 kd_28 fl_X1_41 kc_1 rfl nf_28_5 rfl trivial (fun M10 hM1 => ?_)
      have h := h M10 hM1
      refine zr_aload_n (pc' := 64) (i := 0) dX1_lay_63 rfl rfl rfl ?_
      refine zr_iconst (pc' := 65) dX1_lay_64 rfl ?_
      refine zr_put (pc' := 68) dX1_lay_65 rfl ps_28 kd_28 fl_X1_44 kc_1 rfl nf_28_7 rfl trivial (fun M11 hM1 => ?_)
      have h := h M11 hM1
      refine zr_iconst (pc' := 69) dX1_lay_68 rfl ?_
      exact zr_ireturn dX1_lay_69 rfl rfl (Or.inr rfl) (Nat.le_refl _) (Nat.le_refl _) (And.intro rfl h)
    · have h := h.2.2 hc
      refine zr_iconst (pc' := 21) dX1_lay_20 rfl ?_
      exact zr_ireturn dX1_lay_21 rfl rfl (Or.inl rfl) (Nat.le_refl _) (Nat.le_refl _) (And.intro rfl h)
set_option maxRecDepth 20000 in
theorem vcX1_has {E : zE} {M : zM} {Q : Int → zM → Prop} (l1 : Int)
    (h : (zP E mX11_within [.inl l1, .inl 0, .inl ((M 28 1) - 1)] M (fun r1 M2 => ((r1 = 0 ∨ r1 = 1) ∧ Q r1 M2))))
    : zP E mX1_has [.inr (.inr 28), .inl l1] M Q := by
  refine zP_of (by decide +kernel) rfl (Nat.le_of_ble_eq_true rfl) ?_
  show zA E zNN (0, 0) mX1_has 0 [(0, .inr (.inr 28)), (1, .inl l1)] [] M (zQ Q)
  refine zr_iload_n (pc' := 1) (i := 1) dX1_has_0 rfl rfl rfl ?_
  refine zr_iconst (pc' := 2) dX1_has_1 rfl ?_
  refine zr_aload_n (pc' := 3) (i := 0) dX1_has_2 rfl rfl rfl ?_
  refine zr_get (pc' := 6) dX1_has_3 rfl ps_28 kd_28 fl_X1_15 kc_1 (gv_28_1 _) ?_
  refine zr_iconst (pc' := 7) dX1_has_6 rfl ?_
  refine zr_isub (pc' := 8) dX1_has_7 rfl ?_
  refine zn_callSN (pc' := 11) (args := [.inl l1, .inl 0, .inl ((M 28 1) - 1)]) (st := []) (st' := fun r1 => [.inl r1]) dX1_has_8 rfl cs_X1_31 ⟨rfl, rfl, by decide, by decide⟩ rfl rfl rfl (Nat.le_of_ble_eq_true rfl) (fun _ => rfl) h ?_
  intro r1 M2 h
  exact zr_ireturn dX1_has_11 rfl rfl h.1 (Nat.le_refl _) (Nat.le_refl _) (And.intro rfl h.2)
set_option maxRecDepth 20000 in
theorem vcX1_column {E : zE} {M : zM} {Q : Int → zM → Prop} (l1 : Int)
    (h : ((zR (M 28 0)) ∧ (((M 28 0) ≤ 0 → Q 0 M) ∧ (0 < (M 28 0) → (zR l1 ∧ zR (M 28 0) ∧ M 28 0 ≠ 0) ∧ Q (Int.tmod l1 (M 28 0)) M))))
    : zP E mX1_column [.inr (.inr 28), .inl l1] M Q := by
  refine zP_of (by decide +kernel) rfl (Nat.le_of_ble_eq_true rfl) ?_
  show zA E zNN (0, 0) mX1_column 0 [(0, .inr (.inr 28)), (1, .inl l1)] [] M (zQ Q)
  refine zr_aload_n (pc' := 1) (i := 0) dX1_column_0 rfl rfl rfl ?_
  refine zr_get (pc' := 4) dX1_column_1 rfl ps_28 kd_28 fl_X1_9 kc_1 (gv_28_0 _) ?_
  refine zr_if_le (tgt := 16) (pc' := 7) dX1_column_4 rfl rfl h.1 (fun hc => ?_) (fun hc => ?_)
  · have h := h.2.1 hc
    refine zr_iconst (pc' := 17) dX1_column_16 rfl ?_
    exact zr_ireturn dX1_column_17 rfl rfl trivial (Nat.le_refl _) (Nat.le_refl _) (And.intro rfl h)
  · have h := h.2.2 hc
    refine zr_iload_n (pc' := 8) (i := 1) dX1_column_7 rfl rfl rfl ?_
    refine zr_aload_n (pc' := 9) (i := 0) dX1_column_8 rfl rfl rfl ?_
    refine zr_get (pc' := 12) dX1_column_9 rfl ps_28 kd_28 fl_X1_9 kc_1 (gv_28_0 _) ?_
    refine zr_irem (pc' := 13) dX1_column_12 rfl h.1.1 h.1.2.1 h.1.2.2 ?_
    have h := h.2
    refine zr_goto (pc' := 17) dX1_column_13 rfl ?_
    exact zr_ireturn dX1_column_17 rfl rfl trivial (Nat.le_refl _) (Nat.le_refl _) (And.intro rfl h)
set_option maxRecDepth 20000 in
theorem vcX1_row {E : zE} {M : zM} {Q : Int → zM → Prop} (l1 : Int)
    (h : ((zR (M 28 0)) ∧ (((M 28 0) ≤ 0 → Q 0 M) ∧ (0 < (M 28 0) → (zR l1 ∧ zR (M 28 0) ∧ M 28 0 ≠ 0) ∧ Q (Int.tdiv l1 (M 28 0)) M))))
    : zP E mX1_row [.inr (.inr 28), .inl l1] M Q := by
  refine zP_of (by decide +kernel) rfl (Nat.le_of_ble_eq_true rfl) ?_
  show zA E zNN (0, 0) mX1_row 0 [(0, .inr (.inr 28)), (1, .inl l1)] [] M (zQ Q)
  refine zr_aload_n (pc' := 1) (i := 0) dX1_row_0 rfl rfl rfl ?_
  refine zr_get (pc' := 4) dX1_row_1 rfl ps_28 kd_28 fl_X1_9 kc_1 (gv_28_0 _) ?_
  refine zr_if_le (tgt := 16) (pc' := 7) dX1_row_4 rfl rfl h.1 (fun hc => ?_) (fun hc => ?_)
  · have h := h.2.1 hc
    refine zr_iconst (pc' := 17) dX1_row_16 rfl ?_
    exact zr_ireturn dX1_row_17 rfl rfl trivial (Nat.le_refl _) (Nat.le_refl _) (And.intro rfl h)
  · have h := h.2.2 hc
    refine zr_iload_n (pc' := 8) (i := 1) dX1_row_7 rfl rfl rfl ?_
    refine zr_aload_n (pc' := 9) (i := 0) dX1_row_8 rfl rfl rfl ?_
    refine zr_get (pc' := 12) dX1_row_9 rfl ps_28 kd_28 fl_X1_9 kc_1 (gv_28_0 _) ?_
    refine zr_idiv (pc' := 13) dX1_row_12 rfl h.1.1 h.1.2.1 h.1.2.2 ?_
    have h := h.2
    refine zr_goto (pc' := 17) dX1_row_13 rfl ?_
    exact zr_ireturn dX1_row_17 rfl rfl trivial (Nat.le_refl _) (Nat.le_refl _) (And.intro rfl h)
set_option maxRecDepth 20000 in
theorem vcX1_build {E : zE} {M : zM} {Q : Int → zM → Prop} (l1 l2 l3 : Int)
    (h : (zP E mX1_has [.inr (.inr 28), .inl l1] M (fun r1 M2 => ((zR r1) ∧ ((r1 = 0 → Q 0 M2) ∧ (¬ r1 = 0 → (zP E mX11_within [.inl l2, .inl 0, .inl 999] M2 (fun r3 M4 => ((zR r3) ∧ ((r3 = 0 → Q 0 M4) ∧ (¬ r3 = 0 → (zP E mX11_within [.inl l3, .inl 0, .inl 99] M4 (fun r5 M6 => ((zR r5) ∧ ((¬ r5 = 0 → ((zR l3) ∧ ((l3 ≤ 0 → (0 ≤ l1 ∧ l1 < 64) ∧ (∀ M7, M7 = zup M6 29 l1.toNat l2 → (0 ≤ l1 ∧ l1 < 64) ∧ (∀ M8, M8 = zup M7 30 l1.toNat l3 → Q 1 M8))) ∧ (0 < l3 → (0 ≤ l1 ∧ l1 < 64) ∧ ((zR (M6 31 l1.toNat)) ∧ (((M6 31 l1.toNat) = 0 → (0 ≤ l1 ∧ l1 < 64) ∧ (∀ M9, M9 = zup M6 29 l1.toNat l2 → (0 ≤ l1 ∧ l1 < 64) ∧ (∀ M10, M10 = zup M9 30 l1.toNat l3 → Q 1 M10))) ∧ (¬ (M6 31 l1.toNat) = 0 → Q 0 M6))))))) ∧ (r5 = 0 → Q 0 M6))))))))))))))))
    : zP E mX1_build [.inr (.inr 28), .inl l1, .inl l2, .inl l3] M Q := by
  refine zP_of (by decide +kernel) rfl (Nat.le_of_ble_eq_true rfl) ?_
  show zA E zNN (0, 0) mX1_build 0 [(0, .inr (.inr 28)), (1, .inl l1), (2, .inl l2), (3, .inl l3)] [] M (zQ Q)
  refine zr_aload_n (pc' := 1) (i := 0) dX1_build_0 rfl rfl rfl ?_
  refine zr_iload_n (pc' := 2) (i := 1) dX1_build_1 rfl rfl rfl ?_
  refine zn_callV (pc' := 5) (args := [.inl l1]) (st := []) (st' := fun r1 => [.inl r1]) dX1_build_2 rfl cv_X1_47 ⟨rfl, rfl, by decide, by decide⟩ rfl ps_28 kd_28 rfl rfl (Nat.le_of_ble_eq_true rfl) (fun _ => rfl) h ?_
  intro r1 M2 h
  refine zr_if_eq (tgt := 29) (pc' := 8) dX1_build_5 rfl rfl h.1 (fun hc => ?_) (fun hc => ?_)
  · have h := h.2.1 hc
    refine zr_iconst (pc' := 30) dX1_build_29 rfl ?_
    exact zr_ireturn dX1_build_30 rfl rfl (Or.inl rfl) (Nat.le_refl _) (Nat.le_refl _) (And.intro rfl h)
  · have h := h.2.2 hc
    refine zr_iload_n (pc' := 9) (i := 2) dX1_build_8 rfl rfl rfl ?_
    refine zr_iconst (pc' := 10) dX1_build_9 rfl ?_
    refine zr_sipush (pc' := 13) dX1_build_10 rfl rfl ?_
    refine zn_callSN (pc' := 16) (args := [.inl l2, .inl 0, .inl 999]) (st := []) (st' := fun r3 => [.inl r3]) dX1_build_13 rfl cs_X1_31 ⟨rfl, rfl, by decide, by decide⟩ rfl rfl rfl (Nat.le_of_ble_eq_true rfl) (fun _ => rfl) h ?_
    intro r3 M4 h
    refine zr_if_eq (tgt := 29) (pc' := 19) dX1_build_16 rfl rfl h.1 (fun hc => ?_) (fun hc => ?_)
    · have h := h.2.1 hc
      refine zr_iconst (pc' := 30) dX1_build_29 rfl ?_
      exact zr_ireturn dX1_build_30 rfl rfl (Or.inl rfl) (Nat.le_refl _) (Nat.le_refl _) (And.intro rfl h)
    · have h := h.2.2 hc
      refine zr_iload_n (pc' := 20) (i := 3) dX1_build_19 rfl rfl rfl ?_
      refine zr_iconst (pc' := 21) dX1_build_20 rfl ?_
      refine zr_bipush (pc' := 23) dX1_build_21 rfl rfl ?_
      refine zn_callSN (pc' := 26) (args := [.inl l3, .inl 0, .inl 99]) (st := []) (st' := fun r5 => [.inl r5]) dX1_build_23 rfl cs_X1_31 ⟨rfl, rfl, by decide, by decide⟩ rfl rfl rfl (Nat.le_of_ble_eq_true rfl) (fun _ => rfl) h ?_
      intro r5 M6 h
      refine zr_if_ne (tgt := 31) (pc' := 29) dX1_build_26 rfl rfl h.1 (fun hc => ?_) (fun hc => ?_)
      · have h := h.2.1 hc
        refine zr_iload_n (pc' := 32) (i := 3) dX1_build_31 rfl rfl rfl ?_
        refine zr_if_le (tgt := 46) (pc' := 35) dX1_build_32 rfl rfl h.1 (fun hc => ?_) (fun hc => ?_)
        · have h := h.2.1 hc
          refine zr_aload_n (pc' := 47) (i := 0) dX1_build_46 rfl rfl rfl ?_
          refine zr_get (pc' := 50) dX1_build_47 rfl ps_28 kd_28 fl_X1_18 kc_1 (gv_28_2 _) ?_
          refine zr_iload_n (pc' := 51) (i := 1) dX1_build_50 rfl rfl rfl ?_
          refine zr_iload_n (pc' := 52) (i := 2) dX1_build_51 rfl rfl rfl ?_
          refine zr_iast (pc' := 53) dX1_build_52 rfl ps_29 kd_29 (by decide) h.1.1 h.1.2 (fun M7 hM1 => ?_)
          have h := h.2 M7 hM1
          refine zr_aload_n (pc' := 54) (i := 0) dX1_build_53 rfl rfl rfl ?_
          refine zr_get (pc' := 57) dX1_build_54 rfl ps_28 kd_28 fl_X1_22 kc_1 (gv_28_3 _) ?_
          refine zr_iload_n (pc' := 58) (i := 1) dX1_build_57 rfl rfl rfl ?_
          refine zr_iload_n (pc' := 59) (i := 3) dX1_build_58 rfl rfl rfl ?_
          refine zr_iast (pc' := 60) dX1_build_59 rfl ps_30 kd_30 (by decide) h.1.1 h.1.2 (fun M8 hM1 => ?_)
          have h := h.2 M8 hM1
          refine zr_iconst (pc' := 61) dX1_build_60 rfl ?_
          exact zr_ireturn dX1_build_61 rfl rfl (Or.inr rfl) (Nat.le_refl _) (Nat.le_refl _) (And.intro rfl h)
        · have h := h.2.2 hc
          refine zr_aload_n (pc' := 36) (i := 0) dX1_build_35 rfl rfl rfl ?_
          refine zr_get (pc' := 39) dX1_build_36 rfl ps_28 kd_28 fl_X1_25 kc_1 (gv_28_4 _) ?_
          refine zr_iload_n (pc' := 40) (i := 1) dX1_build_39 rfl rfl rfl ?_
          refine zr_iald (pc' := 41) dX1_build_40 rfl ps_31 kd_31 (by decide) h.1.1 h.1.2 ?_
          have h := h.2
          refine zr_if_eq (tgt := 46) (pc' := 44) dX1_build_41 rfl rfl h.1 (fun hc => ?_) (fun hc => ?_)
          · have h := h.2.1 hc
            refine zr_aload_n (pc' := 47) (i := 0) dX1_build_46 rfl rfl rfl ?_
            refine zr_get (pc' := 50) dX1_build_47 rfl ps_28 kd_28 fl_X1_18 kc_1 (gv_28_2 _) ?_
            refine zr_iload_n (pc' := 51) (i := 1) dX1_build_50 rfl rfl rfl ?_
            refine zr_iload_n (pc' := 52) (i := 2) dX1_build_51 rfl rfl rfl ?_
            refine zr_iast (pc' := 53) dX1_build_52 rfl ps_29 kd_29 (by decide) h.1.1 h.1.2 (fun M9 hM1 => ?_)
            have h := h.2 M9 hM1
            refine zr_aload_n (pc' := 54) (i := 0) dX1_build_53 rfl rfl rfl ?_
            refine zr_get (pc' := 57) dX1_build_54 rfl ps_28 kd_28 fl_X1_22 kc_1 (gv_28_3 _) ?_
            refine zr_iload_n (pc' := 58) (i := 1) dX1_build_57 rfl rfl rfl ?_
            refine zr_iload_n (pc' := 59) (i := 3) dX1_build_58 rfl rfl rfl ?_
            refine zr_iast (pc' := 60) dX1_build_59 rfl ps_30 kd_30 (by decide) h.1.1 h.1.2 (fun M10 hM1 => ?_)
            have h := h.2 M10 hM1
            refine zr_iconst (pc' := 61) dX1_build_60 rfl ?_
            exact zr_ireturn dX1_build_61 rfl rfl (Or.inr rfl) (Nat.le_refl _) (Nat.le_refl _) (And.intro rfl h)
          · have h := h.2.2 hc
            refine zr_iconst (pc' := 45) dX1_build_44 rfl ?_
            exact zr_ireturn dX1_build_45 rfl rfl (Or.inl rfl) (Nat.le_refl _) (Nat.le_refl _) (And.intro rfl h)
      · have h := h.2.2 hc
        refine zr_iconst (pc' := 30) dX1_build_29 rfl ?_
        exact zr_ireturn dX1_build_30 rfl rfl (Or.inl rfl) (Nat.le_refl _) (Nat.le_refl _) (And.intro rfl h)
set_option maxRecDepth 20000 in
theorem vcX1_bit {E : zE} {M : zM} {Q : Int → zM → Prop} (l0 : Int)
    (h : ((zR l0) ∧ ((l0 = 0 → Q 1 M) ∧ (¬ l0 = 0 → Q 2 M))))
    : zP E mX1_bit [.inl l0] M Q := by
  refine zP_of (by decide +kernel) rfl (Nat.le_of_ble_eq_true rfl) ?_
  show zA E zNN (0, 0) mX1_bit 0 [(0, .inl l0)] [] M (zQ Q)
  refine zr_iload_n (pc' := 1) (i := 0) dX1_bit_0 rfl rfl rfl ?_
  refine zr_if_eq (tgt := 8) (pc' := 4) dX1_bit_1 rfl rfl h.1 (fun hc => ?_) (fun hc => ?_)
  · have h := h.2.1 hc
    refine zr_iconst (pc' := 9) dX1_bit_8 rfl ?_
    exact zr_ireturn dX1_bit_9 rfl rfl trivial (Nat.le_refl _) (Nat.le_refl _) (And.intro rfl h)
  · have h := h.2.2 hc
    refine zr_iconst (pc' := 5) dX1_bit_4 rfl ?_
    refine zr_goto (pc' := 9) dX1_bit_5 rfl ?_
    exact zr_ireturn dX1_bit_9 rfl rfl trivial (Nat.le_refl _) (Nat.le_refl _) (And.intro rfl h)
set_option maxRecDepth 20000 in
theorem vcX1_hasWork {E : zE} {M : zM} {Q : Int → zM → Prop} (l1 l2 : Int)
    (h : (zP E mX1_has [.inr (.inr 28), .inl l1] M (fun r1 M2 => ((zR r1) ∧ ((r1 = 0 → Q 0 M2) ∧ (¬ r1 = 0 → (0 ≤ l1 ∧ l1 < 64) ∧ (zP E mX1_bit [.inl l2] M2 (fun r3 M4 => ((zR (zand (M2 31 l1.toNat) r3)) ∧ (((zand (M2 31 l1.toNat) r3) = 0 → Q 0 M4) ∧ (¬ (zand (M2 31 l1.toNat) r3) = 0 → Q 1 M4)))))))))))
    : zP E mX1_hasWork [.inr (.inr 28), .inl l1, .inl l2] M Q := by
  refine zP_of (by decide +kernel) rfl (Nat.le_of_ble_eq_true rfl) ?_
  show zA E zNN (0, 0) mX1_hasWork 0 [(0, .inr (.inr 28)), (1, .inl l1), (2, .inl l2)] [] M (zQ Q)
  refine zr_aload_n (pc' := 1) (i := 0) dX1_hasWork_0 rfl rfl rfl ?_
  refine zr_iload_n (pc' := 2) (i := 1) dX1_hasWork_1 rfl rfl rfl ?_
  refine zn_callV (pc' := 5) (args := [.inl l1]) (st := []) (st' := fun r1 => [.inl r1]) dX1_hasWork_2 rfl cv_X1_47 ⟨rfl, rfl, by decide, by decide⟩ rfl ps_28 kd_28 rfl rfl (Nat.le_of_ble_eq_true rfl) (fun _ => rfl) h ?_
  intro r1 M2 h
  refine zr_if_eq (tgt := 26) (pc' := 8) dX1_hasWork_5 rfl rfl h.1 (fun hc => ?_) (fun hc => ?_)
  · have h := h.2.1 hc
    refine zr_iconst (pc' := 27) dX1_hasWork_26 rfl ?_
    exact zr_ireturn dX1_hasWork_27 rfl rfl (Or.inl rfl) (Nat.le_refl _) (Nat.le_refl _) (And.intro rfl h)
  · have h := h.2.2 hc
    refine zr_aload_n (pc' := 9) (i := 0) dX1_hasWork_8 rfl rfl rfl ?_
    refine zr_get (pc' := 12) dX1_hasWork_9 rfl ps_28 kd_28 fl_X1_25 kc_1 (gv_28_4 _) ?_
    refine zr_iload_n (pc' := 13) (i := 1) dX1_hasWork_12 rfl rfl rfl ?_
    refine zr_iald (pc' := 14) dX1_hasWork_13 rfl ps_31 kd_31 (by decide) h.1.1 h.1.2 ?_
    have h := h.2
    refine zr_iload_n (pc' := 15) (i := 2) dX1_hasWork_14 rfl rfl rfl ?_
    refine zn_callS (pc' := 18) (args := [.inl l2]) (st := [.inl (M2 31 l1.toNat)]) (st' := fun r3 => [.inl r3, .inl (M2 31 l1.toNat)]) dX1_hasWork_15 rfl cs_X1_51 ⟨rfl, rfl, by decide, by decide⟩ rfl rfl rfl (Nat.le_of_ble_eq_true rfl) (fun _ => rfl) h ?_
    intro r3 M4 h
    refine zr_iand (pc' := 19) dX1_hasWork_18 rfl ?_
    refine zr_if_eq (tgt := 26) (pc' := 22) dX1_hasWork_19 rfl rfl h.1 (fun hc => ?_) (fun hc => ?_)
    · have h := h.2.1 hc
      refine zr_iconst (pc' := 27) dX1_hasWork_26 rfl ?_
      exact zr_ireturn dX1_hasWork_27 rfl rfl (Or.inl rfl) (Nat.le_refl _) (Nat.le_refl _) (And.intro rfl h)
    · have h := h.2.2 hc
      refine zr_iconst (pc' := 23) dX1_hasWork_22 rfl ?_
      refine zr_goto (pc' := 27) dX1_hasWork_23 rfl ?_
      exact zr_ireturn dX1_hasWork_27 rfl rfl (Or.inr rfl) (Nat.le_refl _) (Nat.le_refl _) (And.intro rfl h)
set_option maxRecDepth 20000 in
theorem vcX1_mayPut {E : zE} {M : zM} {Q : Int → zM → Prop} (l1 l2 : Int)
    (h : (zP E mX1_has [.inr (.inr 28), .inl l1] M (fun r1 M2 => ((zR r1) ∧ ((r1 = 0 → Q 0 M2) ∧ (¬ r1 = 0 → (zP E mX1_hasWork [.inr (.inr 28), .inl l1, .inl l2] M2 (fun r3 M4 => ((zR r3) ∧ ((¬ r3 = 0 → Q 0 M4) ∧ (r3 = 0 → (0 ≤ l1 ∧ l1 < 64) ∧ ((zR (M4 30 l1.toNat)) ∧ ((¬ (M4 30 l1.toNat) = 0 → Q 0 M4) ∧ ((M4 30 l1.toNat) = 0 → ((zR (M4 28 5)) ∧ ((4 ≤ (M4 28 5) → Q 0 M4) ∧ ((M4 28 5) < 4 → Q 1 M4)))))))))))))))))
    : zP E mX1_mayPut [.inr (.inr 28), .inl l1, .inl l2] M Q := by
  refine zP_of (by decide +kernel) rfl (Nat.le_of_ble_eq_true rfl) ?_
  show zA E zNN (0, 0) mX1_mayPut 0 [(0, .inr (.inr 28)), (1, .inl l1), (2, .inl l2)] [] M (zQ Q)
  refine zr_aload_n (pc' := 1) (i := 0) dX1_mayPut_0 rfl rfl rfl ?_
  refine zr_iload_n (pc' := 2) (i := 1) dX1_mayPut_1 rfl rfl rfl ?_
  refine zn_callV (pc' := 5) (args := [.inl l1]) (st := []) (st' := fun r1 => [.inl r1]) dX1_mayPut_2 rfl cv_X1_47 ⟨rfl, rfl, by decide, by decide⟩ rfl ps_28 kd_28 rfl rfl (Nat.le_of_ble_eq_true rfl) (fun _ => rfl) h ?_
  intro r1 M2 h
  refine zr_if_eq (tgt := 38) (pc' := 8) dX1_mayPut_5 rfl rfl h.1 (fun hc => ?_) (fun hc => ?_)
  · have h := h.2.1 hc
    refine zr_iconst (pc' := 39) dX1_mayPut_38 rfl ?_
    exact zr_ireturn dX1_mayPut_39 rfl rfl (Or.inl rfl) (Nat.le_refl _) (Nat.le_refl _) (And.intro rfl h)
  · have h := h.2.2 hc
    refine zr_aload_n (pc' := 9) (i := 0) dX1_mayPut_8 rfl rfl rfl ?_
    refine zr_iload_n (pc' := 10) (i := 1) dX1_mayPut_9 rfl rfl rfl ?_
    refine zr_iload_n (pc' := 11) (i := 2) dX1_mayPut_10 rfl rfl rfl ?_
    refine zn_callV (pc' := 14) (args := [.inl l1, .inl l2]) (st := []) (st' := fun r3 => [.inl r3]) dX1_mayPut_11 rfl cv_X1_55 ⟨rfl, rfl, by decide, by decide⟩ rfl ps_28 kd_28 rfl rfl (Nat.le_of_ble_eq_true rfl) (fun _ => rfl) h ?_
    intro r3 M4 h
    refine zr_if_ne (tgt := 38) (pc' := 17) dX1_mayPut_14 rfl rfl h.1 (fun hc => ?_) (fun hc => ?_)
    · have h := h.2.1 hc
      refine zr_iconst (pc' := 39) dX1_mayPut_38 rfl ?_
      exact zr_ireturn dX1_mayPut_39 rfl rfl (Or.inl rfl) (Nat.le_refl _) (Nat.le_refl _) (And.intro rfl h)
    · have h := h.2.2 hc
      refine zr_aload_n (pc' := 18) (i := 0) dX1_mayPut_17 rfl rfl rfl ?_
      refine zr_get (pc' := 21) dX1_mayPut_18 rfl ps_28 kd_28 fl_X1_22 kc_1 (gv_28_3 _) ?_
      refine zr_iload_n (pc' := 22) (i := 1) dX1_mayPut_21 rfl rfl rfl ?_
      refine zr_iald (pc' := 23) dX1_mayPut_22 rfl ps_30 kd_30 (by decide) h.1.1 h.1.2 ?_
      have h := h.2
      refine zr_if_ne (tgt := 38) (pc' := 26) dX1_mayPut_23 rfl rfl h.1 (fun hc => ?_) (fun hc => ?_)
      · have h := h.2.1 hc
        refine zr_iconst (pc' := 39) dX1_mayPut_38 rfl ?_
        exact zr_ireturn dX1_mayPut_39 rfl rfl (Or.inl rfl) (Nat.le_refl _) (Nat.le_refl _) (And.intro rfl h)
      · have h := h.2.2 hc
        refine zr_aload_n (pc' := 27) (i := 0) dX1_mayPut_26 rfl rfl rfl ?_
        refine zr_get (pc' := 30) dX1_mayPut_27 rfl ps_28 kd_28 fl_X1_41 kc_1 (gv_28_5 _) ?_
        refine zr_iconst (pc' := 31) dX1_mayPut_30 rfl ?_
        refine zr_icmp_ge (tgt := 38) (pc' := 34) dX1_mayPut_31 rfl rfl h.1 (zRd rfl) (fun hc => ?_) (fun hc => ?_)
        · have h := h.2.1 hc
          refine zr_iconst (pc' := 39) dX1_mayPut_38 rfl ?_
          exact zr_ireturn dX1_mayPut_39 rfl rfl (Or.inl rfl) (Nat.le_refl _) (Nat.le_refl _) (And.intro rfl h)
        · have h := h.2.2 hc
          refine zr_iconst (pc' := 35) dX1_mayPut_34 rfl ?_
          refine zr_goto (pc' := 39) dX1_mayPut_35 rfl ?_
          exact zr_ireturn dX1_mayPut_39 rfl rfl (Or.inr rfl) (Nat.le_refl _) (Nat.le_refl _) (And.intro rfl h)
set_option maxRecDepth 20000 in
theorem vcX1_setWork {E : zE} {M : zM} {Q : Int → zM → Prop} (l1 l2 l3 : Int)
    (h : (0 ≤ l1 ∧ l1 < 64) ∧ (zP E mX1_bit [.inl l2] M (fun r1 M2 => (0 ≤ l1 ∧ l1 < 64) ∧ (∀ M3, M3 = zup M2 31 l1.toNat (zxor (M 31 l1.toNat) r1) → ((zR l3) ∧ ((l3 = 0 → (∀ M4, M4 = zup M3 28 5 ((M3 28 5) + (-1)) → Q 0 M4)) ∧ (¬ l3 = 0 → (∀ M5, M5 = zup M3 28 5 ((M3 28 5) + 1) → Q 0 M5))))))))
    : zP E mX1_setWork [.inr (.inr 28), .inl l1, .inl l2, .inl l3] M Q := by
  refine zP_of (by decide +kernel) rfl (Nat.le_of_ble_eq_true rfl) ?_
  show zA E zNN (0, 0) mX1_setWork 0 [(0, .inr (.inr 28)), (1, .inl l1), (2, .inl l2), (3, .inl l3)] [] M (zQ Q)
  refine zr_aload_n (pc' := 1) (i := 0) dX1_setWork_0 rfl rfl rfl ?_
  refine zr_get (pc' := 4) dX1_setWork_1 rfl ps_28 kd_28 fl_X1_25 kc_1 (gv_28_4 _) ?_
  refine zr_iload_n (pc' := 5) (i := 1) dX1_setWork_4 rfl rfl rfl ?_
  refine zr_dup2 (pc' := 6) dX1_setWork_5 rfl rfl rfl ?_
  refine zr_iald (pc' := 7) dX1_setWork_6 rfl ps_31 kd_31 (by decide) h.1.1 h.1.2 ?_
  have h := h.2
  refine zr_iload_n (pc' := 8) (i := 2) dX1_setWork_7 rfl rfl rfl ?_
  refine zn_callS (pc' := 11) (args := [.inl l2]) (st := [.inl (M 31 l1.toNat), .inl l1, .inr (.inr 31)]) (st' := fun r1 => [.inl r1, .inl (M 31 l1.toNat), .inl l1, .inr (.inr 31)]) dX1_setWork_8 rfl cs_X1_51 ⟨rfl, rfl, by decide, by decide⟩ rfl rfl rfl (Nat.le_of_ble_eq_true rfl) (fun _ => rfl) h ?_
  intro r1 M2 h
  refine zr_ixor (pc' := 12) dX1_setWork_11 rfl ?_
  refine zr_iast (pc' := 13) dX1_setWork_12 rfl ps_31 kd_31 (by decide) h.1.1 h.1.2 (fun M3 hM1 => ?_)
  have h := h.2 M3 hM1
  refine zr_aload_n (pc' := 14) (i := 0) dX1_setWork_13 rfl rfl rfl ?_
  refine zr_dup (pc' := 15) dX1_setWork_14 rfl rfl ?_
  refine zr_get (pc' := 18) dX1_setWork_15 rfl ps_28 kd_28 fl_X1_41 kc_1 (gv_28_5 _) ?_
  refine zr_iload_n (pc' := 19) (i := 3) dX1_setWork_18 rfl rfl rfl ?_
  refine zr_if_eq (tgt := 26) (pc' := 22) dX1_setWork_19 rfl rfl h.1 (fun hc => ?_) (fun hc => ?_)
  · have h := h.2.1 hc
    refine zr_iconst (pc' := 27) dX1_setWork_26 rfl ?_
    refine zr_iadd (pc' := 28) dX1_setWork_27 rfl ?_
    refine zr_put (pc' := 31) dX1_setWork_28 rfl ps_28 kd_28 fl_X1_41 kc_1 rfl nf_28_5 rfl trivial (fun M4 hM1 => ?_)
    have h := h M4 hM1
    exact zr_return (x := 0) dX1_setWork_31 rfl (Nat.le_refl _) (Nat.le_refl _) (And.intro rfl h)
  · have h := h.2.2 hc
    refine zr_iconst (pc' := 23) dX1_setWork_22 rfl ?_
    refine zr_goto (pc' := 27) dX1_setWork_23 rfl ?_
    refine zr_iadd (pc' := 28) dX1_setWork_27 rfl ?_
    refine zr_put (pc' := 31) dX1_setWork_28 rfl ps_28 kd_28 fl_X1_41 kc_1 rfl nf_28_5 rfl trivial (fun M5 hM1 => ?_)
    have h := h M5 hM1
    exact zr_return (x := 0) dX1_setWork_31 rfl (Nat.le_refl _) (Nat.le_refl _) (And.intro rfl h)
set_option maxRecDepth 20000 in
theorem vcX1_groundOf {E : zE} {M : zM} {Q : Int → zM → Prop} (l1 : Int)
    (h : (0 ≤ l1 ∧ l1 < 64) ∧ (0 ≤ l1 ∧ l1 < 64) ∧ ((zR (zand (M 31 l1.toNat) 1)) ∧ (((zand (M 31 l1.toNat) 1) = 0 → (0 ≤ l1 ∧ l1 < 64) ∧ ((zR (zand (M 31 l1.toNat) 2)) ∧ (((zand (M 31 l1.toNat) 2) = 0 → Q (M 29 l1.toNat) M) ∧ (¬ (zand (M 31 l1.toNat) 2) = 0 → Q ((M 29 l1.toNat) + -8) M)))) ∧ (¬ (zand (M 31 l1.toNat) 1) = 0 → (0 ≤ l1 ∧ l1 < 64) ∧ ((zR (zand (M 31 l1.toNat) 2)) ∧ (((zand (M 31 l1.toNat) 2) = 0 → Q ((M 29 l1.toNat) + 8) M) ∧ (¬ (zand (M 31 l1.toNat) 2) = 0 → Q (((M 29 l1.toNat) + 8) + -8) M)))))))
    : zP E mX1_groundOf [.inr (.inr 28), .inl l1] M Q := by
  refine zP_of (by decide +kernel) rfl (Nat.le_of_ble_eq_true rfl) ?_
  show zA E zNN (0, 0) mX1_groundOf 0 [(0, .inr (.inr 28)), (1, .inl l1)] [] M (zQ Q)
  refine zr_aload_n (pc' := 1) (i := 0) dX1_groundOf_0 rfl rfl rfl ?_
  refine zr_get (pc' := 4) dX1_groundOf_1 rfl ps_28 kd_28 fl_X1_18 kc_1 (gv_28_2 _) ?_
  refine zr_iload_n (pc' := 5) (i := 1) dX1_groundOf_4 rfl rfl rfl ?_
  refine zr_iald (pc' := 6) dX1_groundOf_5 rfl ps_29 kd_29 (by decide) h.1.1 h.1.2 ?_
  have h := h.2
  refine zr_istore_n (pc' := 7) (i := 2) (al' := [(2, .inl (M 29 l1.toNat)), (0, .inr (.inr 28)), (1, .inl l1)]) dX1_groundOf_6 rfl rfl (by decide) rfl ?_
  refine zr_aload_n (pc' := 8) (i := 0) dX1_groundOf_7 rfl rfl rfl ?_
  refine zr_get (pc' := 11) dX1_groundOf_8 rfl ps_28 kd_28 fl_X1_25 kc_1 (gv_28_4 _) ?_
  refine zr_iload_n (pc' := 12) (i := 1) dX1_groundOf_11 rfl rfl rfl ?_
  refine zr_iald (pc' := 13) dX1_groundOf_12 rfl ps_31 kd_31 (by decide) h.1.1 h.1.2 ?_
  have h := h.2
  refine zr_iconst (pc' := 14) dX1_groundOf_13 rfl ?_
  refine zr_iand (pc' := 15) dX1_groundOf_14 rfl ?_
  refine zr_if_eq (tgt := 21) (pc' := 18) dX1_groundOf_15 rfl rfl h.1 (fun hc => ?_) (fun hc => ?_)
  · have h := h.2.1 hc
    refine zr_aload_n (pc' := 22) (i := 0) dX1_groundOf_21 rfl rfl rfl ?_
    refine zr_get (pc' := 25) dX1_groundOf_22 rfl ps_28 kd_28 fl_X1_25 kc_1 (gv_28_4 _) ?_
    refine zr_iload_n (pc' := 26) (i := 1) dX1_groundOf_25 rfl rfl rfl ?_
    refine zr_iald (pc' := 27) dX1_groundOf_26 rfl ps_31 kd_31 (by decide) h.1.1 h.1.2 ?_
    have h := h.2
    refine zr_iconst (pc' := 28) dX1_groundOf_27 rfl ?_
    refine zr_iand (pc' := 29) dX1_groundOf_28 rfl ?_
    refine zr_if_eq (tgt := 35) (pc' := 32) dX1_groundOf_29 rfl rfl h.1 (fun hc => ?_) (fun hc => ?_)
    · have h := h.2.1 hc
      refine zr_iload_n (pc' := 36) (i := 2) dX1_groundOf_35 rfl rfl rfl ?_
      exact zr_ireturn dX1_groundOf_36 rfl rfl trivial (Nat.le_refl _) (Nat.le_refl _) (And.intro rfl h)
    · have h := h.2.2 hc
      refine zr_iinc (pc' := 35) (al' := [(2, .inl ((M 29 l1.toNat) + -8)), (0, .inr (.inr 28)), (1, .inl l1)]) dX1_groundOf_32 rfl rfl (by decide) rfl ?_
      refine zr_iload_n (pc' := 36) (i := 2) dX1_groundOf_35 rfl rfl rfl ?_
      exact zr_ireturn dX1_groundOf_36 rfl rfl trivial (Nat.le_refl _) (Nat.le_refl _) (And.intro rfl h)
  · have h := h.2.2 hc
    refine zr_iinc (pc' := 21) (al' := [(2, .inl ((M 29 l1.toNat) + 8)), (0, .inr (.inr 28)), (1, .inl l1)]) dX1_groundOf_18 rfl rfl (by decide) rfl ?_
    refine zr_aload_n (pc' := 22) (i := 0) dX1_groundOf_21 rfl rfl rfl ?_
    refine zr_get (pc' := 25) dX1_groundOf_22 rfl ps_28 kd_28 fl_X1_25 kc_1 (gv_28_4 _) ?_
    refine zr_iload_n (pc' := 26) (i := 1) dX1_groundOf_25 rfl rfl rfl ?_
    refine zr_iald (pc' := 27) dX1_groundOf_26 rfl ps_31 kd_31 (by decide) h.1.1 h.1.2 ?_
    have h := h.2
    refine zr_iconst (pc' := 28) dX1_groundOf_27 rfl ?_
    refine zr_iand (pc' := 29) dX1_groundOf_28 rfl ?_
    refine zr_if_eq (tgt := 35) (pc' := 32) dX1_groundOf_29 rfl rfl h.1 (fun hc => ?_) (fun hc => ?_)
    · have h := h.2.1 hc
      refine zr_iload_n (pc' := 36) (i := 2) dX1_groundOf_35 rfl rfl rfl ?_
      exact zr_ireturn dX1_groundOf_36 rfl rfl trivial (Nat.le_refl _) (Nat.le_refl _) (And.intro rfl h)
    · have h := h.2.2 hc
      refine zr_iinc (pc' := 35) (al' := [(2, .inl (((M 29 l1.toNat) + 8) + -8)), (0, .inr (.inr 28)), (1, .inl l1)]) dX1_groundOf_32 rfl rfl (by decide) rfl ?_
      refine zr_iload_n (pc' := 36) (i := 2) dX1_groundOf_35 rfl rfl rfl ?_
      exact zr_ireturn dX1_groundOf_36 rfl rfl trivial (Nat.le_refl _) (Nat.le_refl _) (And.intro rfl h)
set_option maxRecDepth 20000 in
theorem vcX1_addCandidate {E : zE} {M : zM} {Q : Int → zM → Prop} (l1 : Int) (I21 : Nat → Int → Int → zM → Prop)
    (h : (zP E mX1_has [.inr (.inr 28), .inl l1] M (fun r1 M2 => ((zR r1) ∧ ((r1 = 0 → Q (-1) M2) ∧ (¬ r1 = 0 → ((zR (M2 28 7)) ∧ (((M2 28 7) < 6 → ∃ n', I21 n' l1 0 M2) ∧ (6 ≤ (M2 28 7) → Q (-1) M2)))))))))
    (h21 : ∀ (n : Nat) (l1 l2 : Int) (M : zM), I21 n l1 l2 M → ((zR l2 ∧ zR (M 28 7)) ∧ (((M 28 7) ≤ l2 → (0 ≤ M 28 7 ∧ M 28 7 < 6) ∧ (∀ M3, M3 = zup M 32 ((M 28 7).toNat) l1 → (∀ M4, M4 = zup M3 28 7 ((M3 28 7) + 1) → Q ((M4 28 7) - 1) M4))) ∧ (l2 < (M 28 7) → (0 ≤ l2 ∧ l2 < 6) ∧ ((zR (M 32 l2.toNat) ∧ zR l1) ∧ ((¬ (M 32 l2.toNat) = l1 → ∃ n', n' < n ∧ I21 n' l1 (l2 + 1) M) ∧ ((M 32 l2.toNat) = l1 → Q (-1) M)))))))
    : zP E mX1_addCandidate [.inr (.inr 28), .inl l1] M Q := by
  have key : ∀ n : Nat, (∀ (l1 l2 : Int) (M : zM), I21 n l1 l2 M → zA E zNN (0, 0) mX1_addCandidate 21 [(0, .inr (.inr 28)), (1, .inl l1), (2, .inl l2)] [] M (zQ Q)) := by
    intro n
    induction n using Nat.strongRecOn with
    | ind n ih =>
      intro l1 l2 M h
      have h := h21 n l1 l2 M h
      refine zr_iload_n (pc' := 22) (i := 2) dX1_addCandidate_21 rfl rfl rfl ?_
      refine zr_aload_n (pc' := 23) (i := 0) dX1_addCandidate_22 rfl rfl rfl ?_
      refine zr_get (pc' := 26) dX1_addCandidate_23 rfl ps_28 kd_28 fl_X1_44 kc_1 (gv_28_7 _) ?_
      refine zr_icmp_ge (tgt := 47) (pc' := 29) dX1_addCandidate_26 rfl rfl h.1.1 h.1.2 (fun hc => ?_) (fun hc => ?_)
      · have h := h.2.1 hc
        refine zr_aload_n (pc' := 48) (i := 0) dX1_addCandidate_47 rfl rfl rfl ?_
        refine zr_get (pc' := 51) dX1_addCandidate_48 rfl ps_28 kd_28 fl_X1_28 kc_1 (gv_28_6 _) ?_
        refine zr_aload_n (pc' := 52) (i := 0) dX1_addCandidate_51 rfl rfl rfl ?_
        refine zr_get (pc' := 55) dX1_addCandidate_52 rfl ps_28 kd_28 fl_X1_44 kc_1 (gv_28_7 _) ?_
        refine zr_iload_n (pc' := 56) (i := 1) dX1_addCandidate_55 rfl rfl rfl ?_
        refine zr_iast (pc' := 57) dX1_addCandidate_56 rfl ps_32 kd_32 (by decide) h.1.1 h.1.2 (fun M3 hM1 => ?_)
        have h := h.2 M3 hM1
        refine zr_aload_n (pc' := 58) (i := 0) dX1_addCandidate_57 rfl rfl rfl ?_
        refine zr_dup (pc' := 59) dX1_addCandidate_58 rfl rfl ?_
        refine zr_get (pc' := 62) dX1_addCandidate_59 rfl ps_28 kd_28 fl_X1_44 kc_1 (gv_28_7 _) ?_
        refine zr_iconst (pc' := 63) dX1_addCandidate_62 rfl ?_
        refine zr_iadd (pc' := 64) dX1_addCandidate_63 rfl ?_
        refine zr_put (pc' := 67) dX1_addCandidate_64 rfl ps_28 kd_28 fl_X1_44 kc_1 rfl nf_28_7 rfl trivial (fun M4 hM1 => ?_)
        have h := h M4 hM1
        refine zr_aload_n (pc' := 68) (i := 0) dX1_addCandidate_67 rfl rfl rfl ?_
        refine zr_get (pc' := 71) dX1_addCandidate_68 rfl ps_28 kd_28 fl_X1_44 kc_1 (gv_28_7 _) ?_
        refine zr_iconst (pc' := 72) dX1_addCandidate_71 rfl ?_
        refine zr_isub (pc' := 73) dX1_addCandidate_72 rfl ?_
        exact zr_ireturn dX1_addCandidate_73 rfl rfl trivial (Nat.le_refl _) (Nat.le_refl _) (And.intro rfl h)
      · have h := h.2.2 hc
        refine zr_aload_n (pc' := 30) (i := 0) dX1_addCandidate_29 rfl rfl rfl ?_
        refine zr_get (pc' := 33) dX1_addCandidate_30 rfl ps_28 kd_28 fl_X1_28 kc_1 (gv_28_6 _) ?_
        refine zr_iload_n (pc' := 34) (i := 2) dX1_addCandidate_33 rfl rfl rfl ?_
        refine zr_iald (pc' := 35) dX1_addCandidate_34 rfl ps_32 kd_32 (by decide) h.1.1 h.1.2 ?_
        have h := h.2
        refine zr_iload_n (pc' := 36) (i := 1) dX1_addCandidate_35 rfl rfl rfl ?_
        refine zr_icmp_ne (tgt := 41) (pc' := 39) dX1_addCandidate_36 rfl rfl h.1.1 h.1.2 (fun hc => ?_) (fun hc => ?_)
        · have h := h.2.1 hc
          refine zr_iinc (pc' := 44) (al' := [(2, .inl (l2 + 1)), (0, .inr (.inr 28)), (1, .inl l1)]) dX1_addCandidate_41 rfl rfl (by decide) rfl ?_
          refine zr_goto (pc' := 21) dX1_addCandidate_44 rfl ?_
          obtain ⟨n', hn, h⟩ := h
          exact zn_al ((ih n' hn) _ _ _ h) ⟨rfl, rfl, rfl, trivial⟩
        · have h := h.2.2 hc
          refine zr_iconst (pc' := 40) dX1_addCandidate_39 rfl ?_
          exact zr_ireturn dX1_addCandidate_40 rfl rfl trivial (Nat.le_refl _) (Nat.le_refl _) (And.intro rfl h)
  refine zP_of (by decide +kernel) rfl (Nat.le_of_ble_eq_true rfl) ?_
  show zA E zNN (0, 0) mX1_addCandidate 0 [(0, .inr (.inr 28)), (1, .inl l1)] [] M (zQ Q)
  refine zr_aload_n (pc' := 1) (i := 0) dX1_addCandidate_0 rfl rfl rfl ?_
  refine zr_iload_n (pc' := 2) (i := 1) dX1_addCandidate_1 rfl rfl rfl ?_
  refine zn_callV (pc' := 5) (args := [.inl l1]) (st := []) (st' := fun r1 => [.inl r1]) dX1_addCandidate_2 rfl cv_X1_47 ⟨rfl, rfl, by decide, by decide⟩ rfl ps_28 kd_28 rfl rfl (Nat.le_of_ble_eq_true rfl) (fun _ => rfl) h ?_
  intro r1 M2 h
  refine zr_if_eq (tgt := 17) (pc' := 8) dX1_addCandidate_5 rfl rfl h.1 (fun hc => ?_) (fun hc => ?_)
  · have h := h.2.1 hc
    refine zr_iconst (pc' := 18) dX1_addCandidate_17 rfl ?_
    exact zr_ireturn dX1_addCandidate_18 rfl rfl trivial (Nat.le_refl _) (Nat.le_refl _) (And.intro rfl h)
  · have h := h.2.2 hc
    refine zr_aload_n (pc' := 9) (i := 0) dX1_addCandidate_8 rfl rfl rfl ?_
    refine zr_get (pc' := 12) dX1_addCandidate_9 rfl ps_28 kd_28 fl_X1_44 kc_1 (gv_28_7 _) ?_
    refine zr_bipush (pc' := 14) dX1_addCandidate_12 rfl rfl ?_
    refine zr_icmp_lt (tgt := 19) (pc' := 17) dX1_addCandidate_14 rfl rfl h.1 (zRd rfl) (fun hc => ?_) (fun hc => ?_)
    · have h := h.2.1 hc
      refine zr_iconst (pc' := 20) dX1_addCandidate_19 rfl ?_
      refine zr_istore_n (pc' := 21) (i := 2) (al' := [(2, .inl 0), (0, .inr (.inr 28)), (1, .inl l1)]) dX1_addCandidate_20 rfl rfl (by decide) rfl ?_
      obtain ⟨n', h⟩ := h
      exact zn_al ((key n') _ _ _ h) ⟨rfl, rfl, rfl, trivial⟩
    · have h := h.2.2 hc
      refine zr_iconst (pc' := 18) dX1_addCandidate_17 rfl ?_
      exact zr_ireturn dX1_addCandidate_18 rfl rfl trivial (Nat.le_refl _) (Nat.le_refl _) (And.intro rfl h)
set_option maxRecDepth 20000 in
theorem vcX1_putNumbered {E : zE} {M : zM} {Q : Int → zM → Prop} (l1 : Int)
    (h : (zR l1) ∧ (0 ≤ Int.tdiv l1 2 ∧ Int.tdiv l1 2 < 6) ∧ (zR l1) ∧ ((zR (Int.tmod l1 2)) ∧ ((¬ (Int.tmod l1 2) = 1 → (zP E mX1_mayPut [.inr (.inr 28), .inl (M 32 ((Int.tdiv l1 2).toNat)), .inl 0] M (fun r1 M2 => ((zR r1) ∧ ((r1 = 0 → ((r1 = 0 ∨ r1 = 1) ∧ Q r1 M2)) ∧ (¬ r1 = 0 → (zP E mX1_setWork [.inr (.inr 28), .inl (M 32 ((Int.tdiv l1 2).toNat)), .inl 0, .inl 1] M2 (fun r3 M4 => ((r1 = 0 ∨ r1 = 1) ∧ Q r1 M4))))))))) ∧ ((Int.tmod l1 2) = 1 → (zP E mX1_mayPut [.inr (.inr 28), .inl (M 32 ((Int.tdiv l1 2).toNat)), .inl 1] M (fun r5 M6 => ((zR r5) ∧ ((r5 = 0 → ((r5 = 0 ∨ r5 = 1) ∧ Q r5 M6)) ∧ (¬ r5 = 0 → (zP E mX1_setWork [.inr (.inr 28), .inl (M 32 ((Int.tdiv l1 2).toNat)), .inl 1, .inl 1] M6 (fun r7 M8 => ((r5 = 0 ∨ r5 = 1) ∧ Q r5 M8))))))))))))
    : zP E mX1_putNumbered [.inr (.inr 28), .inl l1] M Q := by
  refine zP_of (by decide +kernel) rfl (Nat.le_of_ble_eq_true rfl) ?_
  show zA E zNN (0, 0) mX1_putNumbered 0 [(0, .inr (.inr 28)), (1, .inl l1)] [] M (zQ Q)
  refine zr_aload_n (pc' := 1) (i := 0) dX1_putNumbered_0 rfl rfl rfl ?_
  refine zr_get (pc' := 4) dX1_putNumbered_1 rfl ps_28 kd_28 fl_X1_28 kc_1 (gv_28_6 _) ?_
  refine zr_iload_n (pc' := 5) (i := 1) dX1_putNumbered_4 rfl rfl rfl ?_
  refine zr_iconst (pc' := 6) dX1_putNumbered_5 rfl ?_
  refine zr_idiv (pc' := 7) dX1_putNumbered_6 rfl h.1 (zRd rfl) (by decide) ?_
  have h := h.2
  refine zr_iald (pc' := 8) dX1_putNumbered_7 rfl ps_32 kd_32 (by decide) h.1.1 h.1.2 ?_
  have h := h.2
  refine zr_istore_n (pc' := 9) (i := 2) (al' := [(2, .inl (M 32 ((Int.tdiv l1 2).toNat))), (0, .inr (.inr 28)), (1, .inl l1)]) dX1_putNumbered_8 rfl rfl (by decide) rfl ?_
  refine zr_iload_n (pc' := 10) (i := 1) dX1_putNumbered_9 rfl rfl rfl ?_
  refine zr_iconst (pc' := 11) dX1_putNumbered_10 rfl ?_
  refine zr_irem (pc' := 12) dX1_putNumbered_11 rfl h.1 (zRd rfl) (by decide) ?_
  have h := h.2
  refine zr_iconst (pc' := 13) dX1_putNumbered_12 rfl ?_
  refine zr_icmp_ne (tgt := 20) (pc' := 16) dX1_putNumbered_13 rfl rfl h.1 (zRd rfl) (fun hc => ?_) (fun hc => ?_)
  · have h := h.2.1 hc
    refine zr_iconst (pc' := 21) dX1_putNumbered_20 rfl ?_
    refine zr_istore_n (pc' := 22) (i := 3) (al' := [(3, .inl 0), (2, .inl (M 32 ((Int.tdiv l1 2).toNat))), (0, .inr (.inr 28)), (1, .inl l1)]) dX1_putNumbered_21 rfl rfl (by decide) rfl ?_
    refine zr_aload_n (pc' := 23) (i := 0) dX1_putNumbered_22 rfl rfl rfl ?_
    refine zr_iload_n (pc' := 24) (i := 2) dX1_putNumbered_23 rfl rfl rfl ?_
    refine zr_iload_n (pc' := 25) (i := 3) dX1_putNumbered_24 rfl rfl rfl ?_
    refine zn_callV (pc' := 28) (args := [.inl (M 32 ((Int.tdiv l1 2).toNat)), .inl 0]) (st := []) (st' := fun r1 => [.inl r1]) dX1_putNumbered_25 rfl cv_X1_59 ⟨rfl, rfl, by decide, by decide⟩ rfl ps_28 kd_28 rfl rfl (Nat.le_of_ble_eq_true rfl) (fun _ => rfl) h ?_
    intro r1 M2 h
    refine zr_istore (pc' := 30) (al' := [(4, .inl r1), (3, .inl 0), (2, .inl (M 32 ((Int.tdiv l1 2).toNat))), (0, .inr (.inr 28)), (1, .inl l1)]) dX1_putNumbered_28 rfl (by decide) rfl ?_
    refine zr_iload (pc' := 32) dX1_putNumbered_30 rfl rfl ?_
    refine zr_if_eq (tgt := 42) (pc' := 35) dX1_putNumbered_32 rfl rfl h.1 (fun hc => ?_) (fun hc => ?_)
    · have h := h.2.1 hc
      refine zr_iload (pc' := 44) dX1_putNumbered_42 rfl rfl ?_
      exact zr_ireturn dX1_putNumbered_44 rfl rfl h.1 (Nat.le_refl _) (Nat.le_refl _) (And.intro rfl h.2)
    · have h := h.2.2 hc
      refine zr_aload_n (pc' := 36) (i := 0) dX1_putNumbered_35 rfl rfl rfl ?_
      refine zr_iload_n (pc' := 37) (i := 2) dX1_putNumbered_36 rfl rfl rfl ?_
      refine zr_iload_n (pc' := 38) (i := 3) dX1_putNumbered_37 rfl rfl rfl ?_
      refine zr_iconst (pc' := 39) dX1_putNumbered_38 rfl ?_
      refine zn_callV (pc' := 42) (args := [.inl (M 32 ((Int.tdiv l1 2).toNat)), .inl 0, .inl 1]) (st := []) (st' := fun _ => []) dX1_putNumbered_39 rfl cv_X1_62 ⟨rfl, rfl, by decide, by decide⟩ rfl ps_28 kd_28 rfl rfl (Nat.le_of_ble_eq_true rfl) (fun _ => rfl) h ?_
      intro r3 M4 h
      refine zr_iload (pc' := 44) dX1_putNumbered_42 rfl rfl ?_
      exact zr_ireturn dX1_putNumbered_44 rfl rfl h.1 (Nat.le_refl _) (Nat.le_refl _) (And.intro rfl h.2)
  · have h := h.2.2 hc
    refine zr_iconst (pc' := 17) dX1_putNumbered_16 rfl ?_
    refine zr_goto (pc' := 21) dX1_putNumbered_17 rfl ?_
    refine zr_istore_n (pc' := 22) (i := 3) (al' := [(3, .inl 1), (2, .inl (M 32 ((Int.tdiv l1 2).toNat))), (0, .inr (.inr 28)), (1, .inl l1)]) dX1_putNumbered_21 rfl rfl (by decide) rfl ?_
    refine zr_aload_n (pc' := 23) (i := 0) dX1_putNumbered_22 rfl rfl rfl ?_
    refine zr_iload_n (pc' := 24) (i := 2) dX1_putNumbered_23 rfl rfl rfl ?_
    refine zr_iload_n (pc' := 25) (i := 3) dX1_putNumbered_24 rfl rfl rfl ?_
    refine zn_callV (pc' := 28) (args := [.inl (M 32 ((Int.tdiv l1 2).toNat)), .inl 1]) (st := []) (st' := fun r5 => [.inl r5]) dX1_putNumbered_25 rfl cv_X1_59 ⟨rfl, rfl, by decide, by decide⟩ rfl ps_28 kd_28 rfl rfl (Nat.le_of_ble_eq_true rfl) (fun _ => rfl) h ?_
    intro r5 M6 h
    refine zr_istore (pc' := 30) (al' := [(4, .inl r5), (3, .inl 1), (2, .inl (M 32 ((Int.tdiv l1 2).toNat))), (0, .inr (.inr 28)), (1, .inl l1)]) dX1_putNumbered_28 rfl (by decide) rfl ?_
    refine zr_iload (pc' := 32) dX1_putNumbered_30 rfl rfl ?_
    refine zr_if_eq (tgt := 42) (pc' := 35) dX1_putNumbered_32 rfl rfl h.1 (fun hc => ?_) (fun hc => ?_)
    · have h := h.2.1 hc
      refine zr_iload (pc' := 44) dX1_putNumbered_42 rfl rfl ?_
      exact zr_ireturn dX1_putNumbered_44 rfl rfl h.1 (Nat.le_refl _) (Nat.le_refl _) (And.intro rfl h.2)
    · have h := h.2.2 hc
      refine zr_aload_n (pc' := 36) (i := 0) dX1_putNumbered_35 rfl rfl rfl ?_
      refine zr_iload_n (pc' := 37) (i := 2) dX1_putNumbered_36 rfl rfl rfl ?_
      refine zr_iload_n (pc' := 38) (i := 3) dX1_putNumbered_37 rfl rfl rfl ?_
      refine zr_iconst (pc' := 39) dX1_putNumbered_38 rfl ?_
      refine zn_callV (pc' := 42) (args := [.inl (M 32 ((Int.tdiv l1 2).toNat)), .inl 1, .inl 1]) (st := []) (st' := fun _ => []) dX1_putNumbered_39 rfl cv_X1_62 ⟨rfl, rfl, by decide, by decide⟩ rfl ps_28 kd_28 rfl rfl (Nat.le_of_ble_eq_true rfl) (fun _ => rfl) h ?_
      intro r7 M8 h
      refine zr_iload (pc' := 44) dX1_putNumbered_42 rfl rfl ?_
      exact zr_ireturn dX1_putNumbered_44 rfl rfl h.1 (Nat.le_refl _) (Nat.le_refl _) (And.intro rfl h.2)
set_option maxRecDepth 20000 in
theorem vcX1_takeNumbered {E : zE} {M : zM} {Q : Int → zM → Prop} (l1 : Int)
    (h : (zR l1) ∧ (0 ≤ Int.tdiv l1 2 ∧ Int.tdiv l1 2 < 6) ∧ (zR l1) ∧ ((zR (Int.tmod l1 2)) ∧ ((¬ (Int.tmod l1 2) = 1 → (zP E mX1_setWork [.inr (.inr 28), .inl (M 32 ((Int.tdiv l1 2).toNat)), .inl 0, .inl 0] M (fun r1 M2 => Q 0 M2))) ∧ ((Int.tmod l1 2) = 1 → (zP E mX1_setWork [.inr (.inr 28), .inl (M 32 ((Int.tdiv l1 2).toNat)), .inl 1, .inl 0] M (fun r3 M4 => Q 0 M4))))))
    : zP E mX1_takeNumbered [.inr (.inr 28), .inl l1] M Q := by
  refine zP_of (by decide +kernel) rfl (Nat.le_of_ble_eq_true rfl) ?_
  show zA E zNN (0, 0) mX1_takeNumbered 0 [(0, .inr (.inr 28)), (1, .inl l1)] [] M (zQ Q)
  refine zr_aload_n (pc' := 1) (i := 0) dX1_takeNumbered_0 rfl rfl rfl ?_
  refine zr_aload_n (pc' := 2) (i := 0) dX1_takeNumbered_1 rfl rfl rfl ?_
  refine zr_get (pc' := 5) dX1_takeNumbered_2 rfl ps_28 kd_28 fl_X1_28 kc_1 (gv_28_6 _) ?_
  refine zr_iload_n (pc' := 6) (i := 1) dX1_takeNumbered_5 rfl rfl rfl ?_
  refine zr_iconst (pc' := 7) dX1_takeNumbered_6 rfl ?_
  refine zr_idiv (pc' := 8) dX1_takeNumbered_7 rfl h.1 (zRd rfl) (by decide) ?_
  have h := h.2
  refine zr_iald (pc' := 9) dX1_takeNumbered_8 rfl ps_32 kd_32 (by decide) h.1.1 h.1.2 ?_
  have h := h.2
  refine zr_iload_n (pc' := 10) (i := 1) dX1_takeNumbered_9 rfl rfl rfl ?_
  refine zr_iconst (pc' := 11) dX1_takeNumbered_10 rfl ?_
  refine zr_irem (pc' := 12) dX1_takeNumbered_11 rfl h.1 (zRd rfl) (by decide) ?_
  have h := h.2
  refine zr_iconst (pc' := 13) dX1_takeNumbered_12 rfl ?_
  refine zr_icmp_ne (tgt := 20) (pc' := 16) dX1_takeNumbered_13 rfl rfl h.1 (zRd rfl) (fun hc => ?_) (fun hc => ?_)
  · have h := h.2.1 hc
    refine zr_iconst (pc' := 21) dX1_takeNumbered_20 rfl ?_
    refine zr_iconst (pc' := 22) dX1_takeNumbered_21 rfl ?_
    refine zn_callV (pc' := 25) (args := [.inl (M 32 ((Int.tdiv l1 2).toNat)), .inl 0, .inl 0]) (st := []) (st' := fun _ => []) dX1_takeNumbered_22 rfl cv_X1_62 ⟨rfl, rfl, by decide, by decide⟩ rfl ps_28 kd_28 rfl rfl (Nat.le_of_ble_eq_true rfl) (fun _ => rfl) h ?_
    intro r1 M2 h
    exact zr_return (x := 0) dX1_takeNumbered_25 rfl (Nat.le_refl _) (Nat.le_refl _) (And.intro rfl h)
  · have h := h.2.2 hc
    refine zr_iconst (pc' := 17) dX1_takeNumbered_16 rfl ?_
    refine zr_goto (pc' := 21) dX1_takeNumbered_17 rfl ?_
    refine zr_iconst (pc' := 22) dX1_takeNumbered_21 rfl ?_
    refine zn_callV (pc' := 25) (args := [.inl (M 32 ((Int.tdiv l1 2).toNat)), .inl 1, .inl 0]) (st := []) (st' := fun _ => []) dX1_takeNumbered_22 rfl cv_X1_62 ⟨rfl, rfl, by decide, by decide⟩ rfl ps_28 kd_28 rfl rfl (Nat.le_of_ble_eq_true rfl) (fun _ => rfl) h ?_
    intro r3 M4 h
    exact zr_return (x := 0) dX1_takeNumbered_25 rfl (Nat.le_refl _) (Nat.le_refl _) (And.intro rfl h)
set_option maxRecDepth 20000 in
theorem vcX2_node {E : zE} {M : zM} {Q : Int → zM → Prop} (l0 l1 : Int)
    (h : Q ((l0 * 25) + l1) M)
    : zP E mX2_node [.inl l0, .inl l1] M Q := by
  refine zP_of (by decide +kernel) rfl (Nat.le_of_ble_eq_true rfl) ?_
  show zA E zNN (0, 0) mX2_node 0 [(0, .inl l0), (1, .inl l1)] [] M (zQ Q)
  refine zr_iload_n (pc' := 1) (i := 0) dX2_node_0 rfl rfl rfl ?_
  refine zr_bipush (pc' := 3) dX2_node_1 rfl rfl ?_
  refine zr_imul (pc' := 4) dX2_node_3 rfl ?_
  refine zr_iload_n (pc' := 5) (i := 1) dX2_node_4 rfl rfl rfl ?_
  refine zr_iadd (pc' := 6) dX2_node_5 rfl ?_
  exact zr_ireturn dX2_node_6 rfl rfl trivial (Nat.le_refl _) (Nat.le_refl _) (And.intro rfl h)
set_option maxRecDepth 20000 in
theorem vcX2_clear {E : zE} {M : zM} {Q : Int → zM → Prop}
    (h : (∀ M1, M1 = zup M 57 4 0 → (∀ M2, M2 = zfill M1 58 202 (-1) → Q 0 M2)))
    : zP E mX2_clear [.inr (.inr 57)] M Q := by
  refine zP_of (by decide +kernel) rfl (Nat.le_of_ble_eq_true rfl) ?_
  show zA E zNN (0, 0) mX2_clear 0 [(0, .inr (.inr 57))] [] M (zQ Q)
  refine zr_aload_n (pc' := 1) (i := 0) dX2_clear_0 rfl rfl rfl ?_
  refine zr_iconst (pc' := 2) dX2_clear_1 rfl ?_
  refine zr_put (pc' := 5) dX2_clear_2 rfl ps_57 kd_57 fl_X2_40 kc_2 rfl nf_57_4 rfl trivial (fun M1 hM1 => ?_)
  have h := h M1 hM1
  refine zr_aload_n (pc' := 6) (i := 0) dX2_clear_5 rfl rfl rfl ?_
  refine zr_get (pc' := 9) dX2_clear_6 rfl ps_57 kd_57 fl_X2_15 kc_2 (gv_57_0 _) ?_
  refine zr_iconst (pc' := 10) dX2_clear_9 rfl ?_
  refine zn_callS (pc' := 13) (args := [.inr (.inr 58), .inl (-1)]) (st := []) (st' := fun _ => []) dX2_clear_10 rfl cs_X2_44 ⟨rfl, rfl, by decide, by decide⟩ rfl rfl rfl (Nat.le_of_ble_eq_true rfl) (fun _ => rfl) (s_fill ps_58 kd_58 (by decide)) ?_
  intro _ M2 hM1
  have h := h M2 hM1
  exact zr_return (x := 0) dX2_clear_13 rfl (Nat.le_refl _) (Nat.le_refl _) (And.intro rfl h)
set_option maxRecDepth 20000 in
theorem vcX2_join {E : zE} {M : zM} {Q : Int → zM → Prop} (l1 l2 l3 : Int)
    (h : ((zR ((M 57 4) + 2)) ∧ ((1088 < ((M 57 4) + 2) → Q 0 M) ∧ (((M 57 4) + 2) ≤ 1088 → (zP E mX2_addArc [.inr (.inr 57), .inl l1, .inl l2, .inl l3] M (fun r1 M2 => (zP E mX2_addArc [.inr (.inr 57), .inl l2, .inl l1, .inl 0] M2 (fun r3 M4 => Q 0 M4))))))))
    : zP E mX2_join [.inr (.inr 57), .inl l1, .inl l2, .inl l3] M Q := by
  refine zP_of (by decide +kernel) rfl (Nat.le_of_ble_eq_true rfl) ?_
  show zA E zNN (0, 0) mX2_join 0 [(0, .inr (.inr 57)), (1, .inl l1), (2, .inl l2), (3, .inl l3)] [] M (zQ Q)
  refine zr_aload_n (pc' := 1) (i := 0) dX2_join_0 rfl rfl rfl ?_
  refine zr_get (pc' := 4) dX2_join_1 rfl ps_57 kd_57 fl_X2_40 kc_2 (gv_57_4 _) ?_
  refine zr_iconst (pc' := 5) dX2_join_4 rfl ?_
  refine zr_iadd (pc' := 6) dX2_join_5 rfl ?_
  refine zr_sipush (pc' := 9) dX2_join_6 rfl rfl ?_
  refine zr_icmp_gt (tgt := 26) (pc' := 12) dX2_join_9 rfl rfl h.1 (zRd rfl) (fun hc => ?_) (fun hc => ?_)
  · have h := h.2.1 hc
    exact zr_return (x := 0) dX2_join_26 rfl (Nat.le_refl _) (Nat.le_refl _) (And.intro rfl h)
  · have h := h.2.2 hc
    refine zr_aload_n (pc' := 13) (i := 0) dX2_join_12 rfl rfl rfl ?_
    refine zr_iload_n (pc' := 14) (i := 1) dX2_join_13 rfl rfl rfl ?_
    refine zr_iload_n (pc' := 15) (i := 2) dX2_join_14 rfl rfl rfl ?_
    refine zr_iload_n (pc' := 16) (i := 3) dX2_join_15 rfl rfl rfl ?_
    refine zn_callV (pc' := 19) (args := [.inl l1, .inl l2, .inl l3]) (st := []) (st' := fun _ => []) dX2_join_16 rfl cv_X2_50 ⟨rfl, rfl, by decide, by decide⟩ rfl ps_57 kd_57 rfl rfl (Nat.le_of_ble_eq_true rfl) (fun _ => rfl) h ?_
    intro r1 M2 h
    refine zr_aload_n (pc' := 20) (i := 0) dX2_join_19 rfl rfl rfl ?_
    refine zr_iload_n (pc' := 21) (i := 2) dX2_join_20 rfl rfl rfl ?_
    refine zr_iload_n (pc' := 22) (i := 1) dX2_join_21 rfl rfl rfl ?_
    refine zr_iconst (pc' := 23) dX2_join_22 rfl ?_
    refine zn_callV (pc' := 26) (args := [.inl l2, .inl l1, .inl 0]) (st := []) (st' := fun _ => []) dX2_join_23 rfl cv_X2_50 ⟨rfl, rfl, by decide, by decide⟩ rfl ps_57 kd_57 rfl rfl (Nat.le_of_ble_eq_true rfl) (fun _ => rfl) h ?_
    intro r3 M4 h
    exact zr_return (x := 0) dX2_join_26 rfl (Nat.le_refl _) (Nat.le_refl _) (And.intro rfl h)
set_option maxRecDepth 20000 in
theorem vcX2_addArc {E : zE} {M : zM} {Q : Int → zM → Prop} (l1 l2 l3 : Int)
    (h : (0 ≤ M 57 4 ∧ M 57 4 < 1088) ∧ (∀ M1, M1 = zup M 60 ((M 57 4).toNat) l2 → (0 ≤ M1 57 4 ∧ M1 57 4 < 1088) ∧ (∀ M2, M2 = zup M1 61 ((M1 57 4).toNat) l3 → (0 ≤ l1 ∧ l1 < 202) ∧ (0 ≤ M2 57 4 ∧ M2 57 4 < 1088) ∧ (∀ M3, M3 = zup M2 59 ((M2 57 4).toNat) (M2 58 l1.toNat) → (0 ≤ l1 ∧ l1 < 202) ∧ (∀ M4, M4 = zup M3 58 l1.toNat (M3 57 4) → (∀ M5, M5 = zup M4 57 4 ((M4 57 4) + 1) → Q 0 M5))))))
    : zP E mX2_addArc [.inr (.inr 57), .inl l1, .inl l2, .inl l3] M Q := by
  refine zP_of (by decide +kernel) rfl (Nat.le_of_ble_eq_true rfl) ?_
  show zA E zNN (0, 0) mX2_addArc 0 [(0, .inr (.inr 57)), (1, .inl l1), (2, .inl l2), (3, .inl l3)] [] M (zQ Q)
  refine zr_aload_n (pc' := 1) (i := 0) dX2_addArc_0 rfl rfl rfl ?_
  refine zr_get (pc' := 4) dX2_addArc_1 rfl ps_57 kd_57 fl_X2_22 kc_2 (gv_57_2 _) ?_
  refine zr_aload_n (pc' := 5) (i := 0) dX2_addArc_4 rfl rfl rfl ?_
  refine zr_get (pc' := 8) dX2_addArc_5 rfl ps_57 kd_57 fl_X2_40 kc_2 (gv_57_4 _) ?_
  refine zr_iload_n (pc' := 9) (i := 2) dX2_addArc_8 rfl rfl rfl ?_
  refine zr_iast (pc' := 10) dX2_addArc_9 rfl ps_60 kd_60 (by decide) h.1.1 h.1.2 (fun M1 hM1 => ?_)
  have h := h.2 M1 hM1
  refine zr_aload_n (pc' := 11) (i := 0) dX2_addArc_10 rfl rfl rfl ?_
  refine zr_get (pc' := 14) dX2_addArc_11 rfl ps_57 kd_57 fl_X2_25 kc_2 (gv_57_3 _) ?_
  refine zr_aload_n (pc' := 15) (i := 0) dX2_addArc_14 rfl rfl rfl ?_
  refine zr_get (pc' := 18) dX2_addArc_15 rfl ps_57 kd_57 fl_X2_40 kc_2 (gv_57_4 _) ?_
  refine zr_iload_n (pc' := 19) (i := 3) dX2_addArc_18 rfl rfl rfl ?_
  refine zr_iast (pc' := 20) dX2_addArc_19 rfl ps_61 kd_61 (by decide) h.1.1 h.1.2 (fun M2 hM1 => ?_)
  have h := h.2 M2 hM1
  refine zr_aload_n (pc' := 21) (i := 0) dX2_addArc_20 rfl rfl rfl ?_
  refine zr_get (pc' := 24) dX2_addArc_21 rfl ps_57 kd_57 fl_X2_19 kc_2 (gv_57_1 _) ?_
  refine zr_aload_n (pc' := 25) (i := 0) dX2_addArc_24 rfl rfl rfl ?_
  refine zr_get (pc' := 28) dX2_addArc_25 rfl ps_57 kd_57 fl_X2_40 kc_2 (gv_57_4 _) ?_
  refine zr_aload_n (pc' := 29) (i := 0) dX2_addArc_28 rfl rfl rfl ?_
  refine zr_get (pc' := 32) dX2_addArc_29 rfl ps_57 kd_57 fl_X2_15 kc_2 (gv_57_0 _) ?_
  refine zr_iload_n (pc' := 33) (i := 1) dX2_addArc_32 rfl rfl rfl ?_
  refine zr_iald (pc' := 34) dX2_addArc_33 rfl ps_58 kd_58 (by decide) h.1.1 h.1.2 ?_
  have h := h.2
  refine zr_iast (pc' := 35) dX2_addArc_34 rfl ps_59 kd_59 (by decide) h.1.1 h.1.2 (fun M3 hM1 => ?_)
  have h := h.2 M3 hM1
  refine zr_aload_n (pc' := 36) (i := 0) dX2_addArc_35 rfl rfl rfl ?_
  refine zr_get (pc' := 39) dX2_addArc_36 rfl ps_57 kd_57 fl_X2_15 kc_2 (gv_57_0 _) ?_
  refine zr_iload_n (pc' := 40) (i := 1) dX2_addArc_39 rfl rfl rfl ?_
  refine zr_aload_n (pc' := 41) (i := 0) dX2_addArc_40 rfl rfl rfl ?_
  refine zr_get (pc' := 44) dX2_addArc_41 rfl ps_57 kd_57 fl_X2_40 kc_2 (gv_57_4 _) ?_
  refine zr_iast (pc' := 45) dX2_addArc_44 rfl ps_58 kd_58 (by decide) h.1.1 h.1.2 (fun M4 hM1 => ?_)
  have h := h.2 M4 hM1
  refine zr_aload_n (pc' := 46) (i := 0) dX2_addArc_45 rfl rfl rfl ?_
  refine zr_dup (pc' := 47) dX2_addArc_46 rfl rfl ?_
  refine zr_get (pc' := 50) dX2_addArc_47 rfl ps_57 kd_57 fl_X2_40 kc_2 (gv_57_4 _) ?_
  refine zr_iconst (pc' := 51) dX2_addArc_50 rfl ?_
  refine zr_iadd (pc' := 52) dX2_addArc_51 rfl ?_
  refine zr_put (pc' := 55) dX2_addArc_52 rfl ps_57 kd_57 fl_X2_40 kc_2 rfl nf_57_4 rfl trivial (fun M5 hM1 => ?_)
  have h := h M5 hM1
  exact zr_return (x := 0) dX2_addArc_55 rfl (Nat.le_refl _) (Nat.le_refl _) (And.intro rfl h)
set_option maxRecDepth 20000 in
theorem vcX2_mostThrough {E : zE} {M : zM} {Q : Int → zM → Prop} (I11 : Nat → Int → Int → zM → Prop)
    (h : (zP E mX2_layByHours [.inr (.inr 57)] M (fun r1 M2 => (zP E mX2_pushRound [.inr (.inr 57)] M2 (fun r3 M4 => ∃ n', I11 n' r3 0 M4)))))
    (h11 : ∀ (n : Nat) (l1 l2 : Int) (M : zM), I11 n l1 l2 M → ((zR l2) ∧ ((1000000 < l2 → Q l1 M) ∧ (l2 ≤ 1000000 → (zP E mX2_layByDistance [.inr (.inr 57)] M (fun r5 M6 => ((zR r5) ∧ ((r5 = 0 → Q l1 M6) ∧ (¬ r5 = 0 → (zP E mX2_pushRound [.inr (.inr 57)] M6 (fun r7 M8 => ∃ n', n' < n ∧ I11 n' (l1 + r7) (l2 + 1) M8)))))))))))
    : zP E mX2_mostThrough [.inr (.inr 57)] M Q := by
  have key : ∀ n : Nat, (∀ (l1 l2 : Int) (M : zM), I11 n l1 l2 M → zA E zNN (0, 0) mX2_mostThrough 11 [(0, .inr (.inr 57)), (1, .inl l1), (2, .inl l2)] [] M (zQ Q)) := by
    intro n
    induction n using Nat.strongRecOn with
    | ind n ih =>
      intro l1 l2 M h
      have h := h11 n l1 l2 M h
      refine zr_iload_n (pc' := 12) (i := 2) dX2_mostThrough_11 rfl rfl rfl ?_
      refine zr_ldc (pc' := 14) (x := 1000000) dX2_mostThrough_12 rfl ci_X2_61 ?_
      refine zr_icmp_gt (tgt := 37) (pc' := 17) dX2_mostThrough_14 rfl rfl h.1 (zRd rfl) (fun hc => ?_) (fun hc => ?_)
      · have h := h.2.1 hc
        refine zr_iload_n (pc' := 38) (i := 1) dX2_mostThrough_37 rfl rfl rfl ?_
        exact zr_ireturn dX2_mostThrough_38 rfl rfl trivial (Nat.le_refl _) (Nat.le_refl _) (And.intro rfl h)
      · have h := h.2.2 hc
        refine zr_aload_n (pc' := 18) (i := 0) dX2_mostThrough_17 rfl rfl rfl ?_
        refine zn_callV (pc' := 21) (args := []) (st := []) (st' := fun r5 => [.inl r5]) dX2_mostThrough_18 rfl cv_X2_62 ⟨rfl, rfl, by decide, by decide⟩ rfl ps_57 kd_57 rfl rfl (Nat.le_of_ble_eq_true rfl) (fun _ => rfl) h ?_
        intro r5 M6 h
        refine zr_if_eq (tgt := 37) (pc' := 24) dX2_mostThrough_21 rfl rfl h.1 (fun hc => ?_) (fun hc => ?_)
        · have h := h.2.1 hc
          refine zr_iload_n (pc' := 38) (i := 1) dX2_mostThrough_37 rfl rfl rfl ?_
          exact zr_ireturn dX2_mostThrough_38 rfl rfl trivial (Nat.le_refl _) (Nat.le_refl _) (And.intro rfl h)
        · have h := h.2.2 hc
          refine zr_iload_n (pc' := 25) (i := 1) dX2_mostThrough_24 rfl rfl rfl ?_
          refine zr_aload_n (pc' := 26) (i := 0) dX2_mostThrough_25 rfl rfl rfl ?_
          refine zn_callV (pc' := 29) (args := []) (st := [.inl l1]) (st' := fun r7 => [.inl r7, .inl l1]) dX2_mostThrough_26 rfl cv_X2_57 ⟨rfl, rfl, by decide, by decide⟩ rfl ps_57 kd_57 rfl rfl (Nat.le_of_ble_eq_true rfl) (fun _ => rfl) h ?_
          intro r7 M8 h
          refine zr_iadd (pc' := 30) dX2_mostThrough_29 rfl ?_
          refine zr_istore_n (pc' := 31) (i := 1) (al' := [(1, .inl (l1 + r7)), (0, .inr (.inr 57)), (2, .inl l2)]) dX2_mostThrough_30 rfl rfl (by decide) rfl ?_
          refine zr_iinc (pc' := 34) (al' := [(2, .inl (l2 + 1)), (1, .inl (l1 + r7)), (0, .inr (.inr 57))]) dX2_mostThrough_31 rfl rfl (by decide) rfl ?_
          refine zr_goto (pc' := 11) dX2_mostThrough_34 rfl ?_
          obtain ⟨n', hn, h⟩ := h
          exact zn_al ((ih n' hn) _ _ _ h) ⟨rfl, rfl, rfl, trivial⟩
  refine zP_of (by decide +kernel) rfl (Nat.le_of_ble_eq_true rfl) ?_
  show zA E zNN (0, 0) mX2_mostThrough 0 [(0, .inr (.inr 57))] [] M (zQ Q)
  refine zr_aload_n (pc' := 1) (i := 0) dX2_mostThrough_0 rfl rfl rfl ?_
  refine zn_callV (pc' := 4) (args := []) (st := []) (st' := fun _ => []) dX2_mostThrough_1 rfl cv_X2_54 ⟨rfl, rfl, by decide, by decide⟩ rfl ps_57 kd_57 rfl rfl (Nat.le_of_ble_eq_true rfl) (fun _ => rfl) h ?_
  intro r1 M2 h
  refine zr_aload_n (pc' := 5) (i := 0) dX2_mostThrough_4 rfl rfl rfl ?_
  refine zn_callV (pc' := 8) (args := []) (st := []) (st' := fun r3 => [.inl r3]) dX2_mostThrough_5 rfl cv_X2_57 ⟨rfl, rfl, by decide, by decide⟩ rfl ps_57 kd_57 rfl rfl (Nat.le_of_ble_eq_true rfl) (fun _ => rfl) h ?_
  intro r3 M4 h
  refine zr_istore_n (pc' := 9) (i := 1) (al' := [(1, .inl r3), (0, .inr (.inr 57))]) dX2_mostThrough_8 rfl rfl (by decide) rfl ?_
  refine zr_iconst (pc' := 10) dX2_mostThrough_9 rfl ?_
  refine zr_istore_n (pc' := 11) (i := 2) (al' := [(2, .inl 0), (1, .inl r3), (0, .inr (.inr 57))]) dX2_mostThrough_10 rfl rfl (by decide) rfl ?_
  obtain ⟨n', h⟩ := h
  exact zn_al ((key n') _ _ _ h) ⟨rfl, rfl, rfl, trivial⟩
set_option maxRecDepth 20000 in
theorem vcX2_isReached {E : zE} {M : zM} {Q : Int → zM → Prop} (l1 : Int)
    (h : (0 ≤ l1 ∧ l1 < 202) ∧ ((zR (M 62 l1.toNat)) ∧ (((M 62 l1.toNat) = (-1) → Q 0 M) ∧ (¬ (M 62 l1.toNat) = (-1) → Q 1 M))))
    : zP E mX2_isReached [.inr (.inr 57), .inl l1] M Q := by
  refine zP_of (by decide +kernel) rfl (Nat.le_of_ble_eq_true rfl) ?_
  show zA E zNN (0, 0) mX2_isReached 0 [(0, .inr (.inr 57)), (1, .inl l1)] [] M (zQ Q)
  refine zr_aload_n (pc' := 1) (i := 0) dX2_isReached_0 rfl rfl rfl ?_
  refine zr_get (pc' := 4) dX2_isReached_1 rfl ps_57 kd_57 fl_X2_28 kc_2 (gv_57_5 _) ?_
  refine zr_iload_n (pc' := 5) (i := 1) dX2_isReached_4 rfl rfl rfl ?_
  refine zr_iald (pc' := 6) dX2_isReached_5 rfl ps_62 kd_62 (by decide) h.1.1 h.1.2 ?_
  have h := h.2
  refine zr_iconst (pc' := 7) dX2_isReached_6 rfl ?_
  refine zr_icmp_eq (tgt := 14) (pc' := 10) dX2_isReached_7 rfl rfl h.1 (zRd rfl) (fun hc => ?_) (fun hc => ?_)
  · have h := h.2.1 hc
    refine zr_iconst (pc' := 15) dX2_isReached_14 rfl ?_
    exact zr_ireturn dX2_isReached_15 rfl rfl (Or.inl rfl) (Nat.le_refl _) (Nat.le_refl _) (And.intro rfl h)
  · have h := h.2.2 hc
    refine zr_iconst (pc' := 11) dX2_isReached_10 rfl ?_
    refine zr_goto (pc' := 15) dX2_isReached_11 rfl ?_
    exact zr_ireturn dX2_isReached_15 rfl rfl (Or.inr rfl) (Nat.le_refl _) (Nat.le_refl _) (And.intro rfl h)
set_option maxRecDepth 20000 in
theorem vcX2_layByHours {E : zE} {M : zM} {Q : Int → zM → Prop} (I2 : Nat → Int → zM → Prop)
    (h : ∃ n', I2 n' 0 M)
    (h2 : ∀ (n : Nat) (l1 : Int) (M : zM), I2 n l1 M → ((zR l1) ∧ ((200 ≤ l1 → (∀ M1, M1 = zup M 62 200 0 → (∀ M2, M2 = zup M1 62 201 26 → Q 0 M2))) ∧ (l1 < 200 → (zR l1) ∧ (0 ≤ l1 ∧ l1 < 202) ∧ (∀ M3, M3 = zup M 62 l1.toNat (1 + (Int.tmod l1 25)) → ∃ n', n' < n ∧ I2 n' (l1 + 1) M3)))))
    : zP E mX2_layByHours [.inr (.inr 57)] M Q := by
  have key : ∀ n : Nat, (∀ (l1 : Int) (M : zM), I2 n l1 M → zA E zNN (0, 0) mX2_layByHours 2 [(0, .inr (.inr 57)), (1, .inl l1)] [] M (zQ Q)) := by
    intro n
    induction n using Nat.strongRecOn with
    | ind n ih =>
      intro l1 M h
      have h := h2 n l1 M h
      refine zr_iload_n (pc' := 3) (i := 1) dX2_layByHours_2 rfl rfl rfl ?_
      refine zr_sipush (pc' := 6) dX2_layByHours_3 rfl rfl ?_
      refine zr_icmp_ge (tgt := 27) (pc' := 9) dX2_layByHours_6 rfl rfl h.1 (zRd rfl) (fun hc => ?_) (fun hc => ?_)
      · have h := h.2.1 hc
        refine zr_aload_n (pc' := 28) (i := 0) dX2_layByHours_27 rfl rfl rfl ?_
        refine zr_get (pc' := 31) dX2_layByHours_28 rfl ps_57 kd_57 fl_X2_28 kc_2 (gv_57_5 _) ?_
        refine zr_sipush (pc' := 34) dX2_layByHours_31 rfl rfl ?_
        refine zr_iconst (pc' := 35) dX2_layByHours_34 rfl ?_
        refine zr_iast (pc' := 36) dX2_layByHours_35 rfl ps_62 kd_62 (by decide) (by decide) (by decide) (fun M1 hM1 => ?_)
        have h := h M1 hM1
        refine zr_aload_n (pc' := 37) (i := 0) dX2_layByHours_36 rfl rfl rfl ?_
        refine zr_get (pc' := 40) dX2_layByHours_37 rfl ps_57 kd_57 fl_X2_28 kc_2 (gv_57_5 _) ?_
        refine zr_sipush (pc' := 43) dX2_layByHours_40 rfl rfl ?_
        refine zr_bipush (pc' := 45) dX2_layByHours_43 rfl rfl ?_
        refine zr_iast (pc' := 46) dX2_layByHours_45 rfl ps_62 kd_62 (by decide) (by decide) (by decide) (fun M2 hM1 => ?_)
        have h := h M2 hM1
        exact zr_return (x := 0) dX2_layByHours_46 rfl (Nat.le_refl _) (Nat.le_refl _) (And.intro rfl h)
      · have h := h.2.2 hc
        refine zr_aload_n (pc' := 10) (i := 0) dX2_layByHours_9 rfl rfl rfl ?_
        refine zr_get (pc' := 13) dX2_layByHours_10 rfl ps_57 kd_57 fl_X2_28 kc_2 (gv_57_5 _) ?_
        refine zr_iload_n (pc' := 14) (i := 1) dX2_layByHours_13 rfl rfl rfl ?_
        refine zr_iconst (pc' := 15) dX2_layByHours_14 rfl ?_
        refine zr_iload_n (pc' := 16) (i := 1) dX2_layByHours_15 rfl rfl rfl ?_
        refine zr_bipush (pc' := 18) dX2_layByHours_16 rfl rfl ?_
        refine zr_irem (pc' := 19) dX2_layByHours_18 rfl h.1 (zRd rfl) (by decide) ?_
        have h := h.2
        refine zr_iadd (pc' := 20) dX2_layByHours_19 rfl ?_
        refine zr_iast (pc' := 21) dX2_layByHours_20 rfl ps_62 kd_62 (by decide) h.1.1 h.1.2 (fun M3 hM1 => ?_)
        have h := h.2 M3 hM1
        refine zr_iinc (pc' := 24) (al' := [(1, .inl (l1 + 1)), (0, .inr (.inr 57))]) dX2_layByHours_21 rfl rfl (by decide) rfl ?_
        refine zr_goto (pc' := 2) dX2_layByHours_24 rfl ?_
        obtain ⟨n', hn, h⟩ := h
        exact zn_al ((ih n' hn) _ _ h) ⟨rfl, rfl, trivial⟩
  refine zP_of (by decide +kernel) rfl (Nat.le_of_ble_eq_true rfl) ?_
  show zA E zNN (0, 0) mX2_layByHours 0 [(0, .inr (.inr 57))] [] M (zQ Q)
  refine zr_iconst (pc' := 1) dX2_layByHours_0 rfl ?_
  refine zr_istore_n (pc' := 2) (i := 1) (al' := [(1, .inl 0), (0, .inr (.inr 57))]) dX2_layByHours_1 rfl rfl (by decide) rfl ?_
  obtain ⟨n', h⟩ := h
  exact zn_al ((key n') _ _ h) ⟨rfl, rfl, trivial⟩
set_option maxRecDepth 20000 in
theorem vcX2_layByDistance {E : zE} {M : zM} {Q : Int → zM → Prop} (I30 : Nat → Int → Int → zM → Prop) (I53 : Nat → Int → Int → Int → Int → Int → zM → Prop)
    (h : (∀ M1, M1 = zfill M 62 202 (-1) → (∀ M2, M2 = zup M1 62 200 0 → (∀ M3, M3 = zup M2 64 0 200 → ∃ n', I30 n' 1 0 M3))))
    (h30 : ∀ (n : Nat) (l1 l2 : Int) (M : zM), I30 n l1 l2 M → ((zR l2 ∧ zR l1) ∧ ((l1 ≤ l2 → ((zR (M 62 201)) ∧ (((M 62 201) = (-1) → Q 0 M) ∧ (¬ (M 62 201) = (-1) → Q 1 M)))) ∧ (l2 < l1 → (0 ≤ l2 ∧ l2 < 202) ∧ (0 ≤ M 64 l2.toNat ∧ M 64 l2.toNat < 202) ∧ ∃ n', n' < n ∧ I53 n' l1 l2 (M 64 l2.toNat) (M 58 ((M 64 l2.toNat).toNat)) 0 M))))
    (h53 : ∀ (n : Nat) (l1 l2 l3 l4 l5 : Int) (M : zM), I53 n l1 l2 l3 l4 l5 M → ((zR l5 ∧ zR (M 57 4)) ∧ (((M 57 4) ≤ l5 → ∃ n', n' < n ∧ I30 n' l1 (l2 + 1) M) ∧ (l5 < (M 57 4) → ((zR l4) ∧ ((l4 = (-1) → ∃ n', n' < n ∧ I30 n' l1 (l2 + 1) M) ∧ (¬ l4 = (-1) → (0 ≤ l4 ∧ l4 < 1088) ∧ (0 ≤ l4 ∧ l4 < 1088) ∧ ((zR (M 61 l4.toNat)) ∧ (((M 61 l4.toNat) ≤ 0 → (0 ≤ l4 ∧ l4 < 1088) ∧ ∃ n', n' < n ∧ I53 n' l1 l2 l3 (M 59 l4.toNat) (l5 + 1) M) ∧ (0 < (M 61 l4.toNat) → (0 ≤ M 60 l4.toNat ∧ M 60 l4.toNat < 202) ∧ ((zR (M 62 ((M 60 l4.toNat).toNat))) ∧ ((¬ (M 62 ((M 60 l4.toNat).toNat)) = (-1) → (0 ≤ l4 ∧ l4 < 1088) ∧ ∃ n', n' < n ∧ I53 n' l1 l2 l3 (M 59 l4.toNat) (l5 + 1) M) ∧ ((M 62 ((M 60 l4.toNat).toNat)) = (-1) → ((zR l1) ∧ ((202 ≤ l1 → (0 ≤ l4 ∧ l4 < 1088) ∧ ∃ n', n' < n ∧ I53 n' l1 l2 l3 (M 59 l4.toNat) (l5 + 1) M) ∧ (l1 < 202 → (0 ≤ l3 ∧ l3 < 202) ∧ (0 ≤ M 60 l4.toNat ∧ M 60 l4.toNat < 202) ∧ (∀ M4, M4 = zup M 62 ((M 60 l4.toNat).toNat) ((M 62 l3.toNat) + 1) → (0 ≤ l1 ∧ l1 < 202) ∧ (∀ M5, M5 = zup M4 64 l1.toNat (M 60 l4.toNat) → (0 ≤ l4 ∧ l4 < 1088) ∧ ∃ n', n' < n ∧ I53 n' (l1 + 1) l2 l3 (M5 59 l4.toNat) (l5 + 1) M5))))))))))))))))))
    : zP E mX2_layByDistance [.inr (.inr 57)] M Q := by
  have key : ∀ n : Nat, (∀ (l1 l2 : Int) (M : zM), I30 n l1 l2 M → zA E zNN (0, 0) mX2_layByDistance 30 [(0, .inr (.inr 57)), (1, .inl l1), (2, .inl l2)] [] M (zQ Q)) ∧ (∀ (l1 l2 l3 l4 l5 : Int) (M : zM), I53 n l1 l2 l3 l4 l5 M → zA E zNN (0, 0) mX2_layByDistance 53 [(0, .inr (.inr 57)), (1, .inl l1), (2, .inl l2), (3, .inl l3), (4, .inl l4), (5, .inl l5)] [] M (zQ Q)) := by
    intro n
    induction n using Nat.strongRecOn with
    | ind n ih =>
      refine ⟨?_, ?_⟩
      · intro l1 l2 M h
        have h := h30 n l1 l2 M h
        refine zr_iload_n (pc' := 31) (i := 2) dX2_layByDistance_30 rfl rfl rfl ?_
        refine zr_iload_n (pc' := 32) (i := 1) dX2_layByDistance_31 rfl rfl rfl ?_
        refine zr_icmp_ge (tgt := 152) (pc' := 35) dX2_layByDistance_32 rfl rfl h.1.1 h.1.2 (fun hc => ?_) (fun hc => ?_)
        · have h := h.2.1 hc
          refine zr_aload_n (pc' := 153) (i := 0) dX2_layByDistance_152 rfl rfl rfl ?_
          refine zr_get (pc' := 156) dX2_layByDistance_153 rfl ps_57 kd_57 fl_X2_28 kc_2 (gv_57_5 _) ?_
          refine zr_sipush (pc' := 159) dX2_layByDistance_156 rfl rfl ?_
          refine zr_iald (pc' := 160) dX2_layByDistance_159 rfl ps_62 kd_62 (by decide) (by decide) (by decide) ?_
          refine zr_iconst (pc' := 161) dX2_layByDistance_160 rfl ?_
          refine zr_icmp_eq (tgt := 168) (pc' := 164) dX2_layByDistance_161 rfl rfl h.1 (zRd rfl) (fun hc => ?_) (fun hc => ?_)
          · have h := h.2.1 hc
            refine zr_iconst (pc' := 169) dX2_layByDistance_168 rfl ?_
            exact zr_ireturn dX2_layByDistance_169 rfl rfl (Or.inl rfl) (Nat.le_refl _) (Nat.le_refl _) (And.intro rfl h)
          · have h := h.2.2 hc
            refine zr_iconst (pc' := 165) dX2_layByDistance_164 rfl ?_
            refine zr_goto (pc' := 169) dX2_layByDistance_165 rfl ?_
            exact zr_ireturn dX2_layByDistance_169 rfl rfl (Or.inr rfl) (Nat.le_refl _) (Nat.le_refl _) (And.intro rfl h)
        · have h := h.2.2 hc
          refine zr_aload_n (pc' := 36) (i := 0) dX2_layByDistance_35 rfl rfl rfl ?_
          refine zr_get (pc' := 39) dX2_layByDistance_36 rfl ps_57 kd_57 fl_X2_34 kc_2 (gv_57_7 _) ?_
          refine zr_iload_n (pc' := 40) (i := 2) dX2_layByDistance_39 rfl rfl rfl ?_
          refine zr_iald (pc' := 41) dX2_layByDistance_40 rfl ps_64 kd_64 (by decide) h.1.1 h.1.2 ?_
          have h := h.2
          refine zr_istore_n (pc' := 42) (i := 3) (al' := [(3, .inl (M 64 l2.toNat)), (0, .inr (.inr 57)), (1, .inl l1), (2, .inl l2)]) dX2_layByDistance_41 rfl rfl (by decide) rfl ?_
          refine zr_aload_n (pc' := 43) (i := 0) dX2_layByDistance_42 rfl rfl rfl ?_
          refine zr_get (pc' := 46) dX2_layByDistance_43 rfl ps_57 kd_57 fl_X2_15 kc_2 (gv_57_0 _) ?_
          refine zr_iload_n (pc' := 47) (i := 3) dX2_layByDistance_46 rfl rfl rfl ?_
          refine zr_iald (pc' := 48) dX2_layByDistance_47 rfl ps_58 kd_58 (by decide) h.1.1 h.1.2 ?_
          have h := h.2
          refine zr_istore (pc' := 50) (al' := [(4, .inl (M 58 ((M 64 l2.toNat).toNat))), (3, .inl (M 64 l2.toNat)), (0, .inr (.inr 57)), (1, .inl l1), (2, .inl l2)]) dX2_layByDistance_48 rfl (by decide) rfl ?_
          refine zr_iconst (pc' := 51) dX2_layByDistance_50 rfl ?_
          refine zr_istore (pc' := 53) (al' := [(5, .inl 0), (4, .inl (M 58 ((M 64 l2.toNat).toNat))), (3, .inl (M 64 l2.toNat)), (0, .inr (.inr 57)), (1, .inl l1), (2, .inl l2)]) dX2_layByDistance_51 rfl (by decide) rfl ?_
          obtain ⟨n', hn, h⟩ := h
          exact zn_al ((ih n' hn).2 _ _ _ _ _ _ h) ⟨rfl, rfl, rfl, rfl, rfl, rfl, trivial⟩
      · intro l1 l2 l3 l4 l5 M h
        have h := h53 n l1 l2 l3 l4 l5 M h
        refine zr_iload (pc' := 55) dX2_layByDistance_53 rfl rfl ?_
        refine zr_aload_n (pc' := 56) (i := 0) dX2_layByDistance_55 rfl rfl rfl ?_
        refine zr_get (pc' := 59) dX2_layByDistance_56 rfl ps_57 kd_57 fl_X2_40 kc_2 (gv_57_4 _) ?_
        refine zr_icmp_ge (tgt := 146) (pc' := 62) dX2_layByDistance_59 rfl rfl h.1.1 h.1.2 (fun hc => ?_) (fun hc => ?_)
        · have h := h.2.1 hc
          refine zr_iinc (pc' := 149) (al' := [(2, .inl (l2 + 1)), (0, .inr (.inr 57)), (1, .inl l1), (3, .inl l3), (4, .inl l4), (5, .inl l5)]) dX2_layByDistance_146 rfl rfl (by decide) rfl ?_
          refine zr_goto (pc' := 30) dX2_layByDistance_149 rfl ?_
          obtain ⟨n', hn, h⟩ := h
          exact zn_al ((ih n' hn).1 _ _ _ h) ⟨rfl, rfl, rfl, trivial⟩
        · have h := h.2.2 hc
          refine zr_iload (pc' := 64) dX2_layByDistance_62 rfl rfl ?_
          refine zr_iconst (pc' := 65) dX2_layByDistance_64 rfl ?_
          refine zr_icmp_eq (tgt := 146) (pc' := 68) dX2_layByDistance_65 rfl rfl h.1 (zRd rfl) (fun hc => ?_) (fun hc => ?_)
          · have h := h.2.1 hc
            refine zr_iinc (pc' := 149) (al' := [(2, .inl (l2 + 1)), (0, .inr (.inr 57)), (1, .inl l1), (3, .inl l3), (4, .inl l4), (5, .inl l5)]) dX2_layByDistance_146 rfl rfl (by decide) rfl ?_
            refine zr_goto (pc' := 30) dX2_layByDistance_149 rfl ?_
            obtain ⟨n', hn, h⟩ := h
            exact zn_al ((ih n' hn).1 _ _ _ h) ⟨rfl, rfl, rfl, trivial⟩
          · have h := h.2.2 hc
            refine zr_aload_n (pc' := 69) (i := 0) dX2_layByDistance_68 rfl rfl rfl ?_
            refine zr_get (pc' := 72) dX2_layByDistance_69 rfl ps_57 kd_57 fl_X2_22 kc_2 (gv_57_2 _) ?_
            refine zr_iload (pc' := 74) dX2_layByDistance_72 rfl rfl ?_
            refine zr_iald (pc' := 75) dX2_layByDistance_74 rfl ps_60 kd_60 (by decide) h.1.1 h.1.2 ?_
            have h := h.2
            refine zr_istore (pc' := 77) (al' := [(6, .inl (M 60 l4.toNat)), (0, .inr (.inr 57)), (1, .inl l1), (2, .inl l2), (3, .inl l3), (4, .inl l4), (5, .inl l5)]) dX2_layByDistance_75 rfl (by decide) rfl ?_
            refine zr_aload_n (pc' := 78) (i := 0) dX2_layByDistance_77 rfl rfl rfl ?_
            refine zr_get (pc' := 81) dX2_layByDistance_78 rfl ps_57 kd_57 fl_X2_25 kc_2 (gv_57_3 _) ?_
            refine zr_iload (pc' := 83) dX2_layByDistance_81 rfl rfl ?_
            refine zr_iald (pc' := 84) dX2_layByDistance_83 rfl ps_61 kd_61 (by decide) h.1.1 h.1.2 ?_
            have h := h.2
            refine zr_if_le (tgt := 131) (pc' := 87) dX2_layByDistance_84 rfl rfl h.1 (fun hc => ?_) (fun hc => ?_)
            · have h := h.2.1 hc
              refine zr_aload_n (pc' := 132) (i := 0) dX2_layByDistance_131 rfl rfl rfl ?_
              refine zr_get (pc' := 135) dX2_layByDistance_132 rfl ps_57 kd_57 fl_X2_19 kc_2 (gv_57_1 _) ?_
              refine zr_iload (pc' := 137) dX2_layByDistance_135 rfl rfl ?_
              refine zr_iald (pc' := 138) dX2_layByDistance_137 rfl ps_59 kd_59 (by decide) h.1.1 h.1.2 ?_
              have h := h.2
              refine zr_istore (pc' := 140) (al' := [(4, .inl (M 59 l4.toNat)), (6, .inl (M 60 l4.toNat)), (0, .inr (.inr 57)), (1, .inl l1), (2, .inl l2), (3, .inl l3), (5, .inl l5)]) dX2_layByDistance_138 rfl (by decide) rfl ?_
              refine zr_iinc (pc' := 143) (al' := [(5, .inl (l5 + 1)), (4, .inl (M 59 l4.toNat)), (6, .inl (M 60 l4.toNat)), (0, .inr (.inr 57)), (1, .inl l1), (2, .inl l2), (3, .inl l3)]) dX2_layByDistance_140 rfl rfl (by decide) rfl ?_
              refine zr_goto (pc' := 53) dX2_layByDistance_143 rfl ?_
              obtain ⟨n', hn, h⟩ := h
              exact zn_al ((ih n' hn).2 _ _ _ _ _ _ h) ⟨rfl, rfl, rfl, rfl, rfl, rfl, trivial⟩
            · have h := h.2.2 hc
              refine zr_aload_n (pc' := 88) (i := 0) dX2_layByDistance_87 rfl rfl rfl ?_
              refine zr_get (pc' := 91) dX2_layByDistance_88 rfl ps_57 kd_57 fl_X2_28 kc_2 (gv_57_5 _) ?_
              refine zr_iload (pc' := 93) dX2_layByDistance_91 rfl rfl ?_
              refine zr_iald (pc' := 94) dX2_layByDistance_93 rfl ps_62 kd_62 (by decide) h.1.1 h.1.2 ?_
              have h := h.2
              refine zr_iconst (pc' := 95) dX2_layByDistance_94 rfl ?_
              refine zr_icmp_ne (tgt := 131) (pc' := 98) dX2_layByDistance_95 rfl rfl h.1 (zRd rfl) (fun hc => ?_) (fun hc => ?_)
              · have h := h.2.1 hc
                refine zr_aload_n (pc' := 132) (i := 0) dX2_layByDistance_131 rfl rfl rfl ?_
                refine zr_get (pc' := 135) dX2_layByDistance_132 rfl ps_57 kd_57 fl_X2_19 kc_2 (gv_57_1 _) ?_
                refine zr_iload (pc' := 137) dX2_layByDistance_135 rfl rfl ?_
                refine zr_iald (pc' := 138) dX2_layByDistance_137 rfl ps_59 kd_59 (by decide) h.1.1 h.1.2 ?_
                have h := h.2
                refine zr_istore (pc' := 140) (al' := [(4, .inl (M 59 l4.toNat)), (6, .inl (M 60 l4.toNat)), (0, .inr (.inr 57)), (1, .inl l1), (2, .inl l2), (3, .inl l3), (5, .inl l5)]) dX2_layByDistance_138 rfl (by decide) rfl ?_
                refine zr_iinc (pc' := 143) (al' := [(5, .inl (l5 + 1)), (4, .inl (M 59 l4.toNat)), (6, .inl (M 60 l4.toNat)), (0, .inr (.inr 57)), (1, .inl l1), (2, .inl l2), (3, .inl l3)]) dX2_layByDistance_140 rfl rfl (by decide) rfl ?_
                refine zr_goto (pc' := 53) dX2_layByDistance_143 rfl ?_
                obtain ⟨n', hn, h⟩ := h
                exact zn_al ((ih n' hn).2 _ _ _ _ _ _ h) ⟨rfl, rfl, rfl, rfl, rfl, rfl, trivial⟩
              · have h := h.2.2 hc
                refine zr_iload_n (pc' := 99) (i := 1) dX2_layByDistance_98 rfl rfl rfl ?_
                refine zr_sipush (pc' := 102) dX2_layByDistance_99 rfl rfl ?_
                refine zr_icmp_ge (tgt := 131) (pc' := 105) dX2_layByDistance_102 rfl rfl h.1 (zRd rfl) (fun hc => ?_) (fun hc => ?_)
                · have h := h.2.1 hc
                  refine zr_aload_n (pc' := 132) (i := 0) dX2_layByDistance_131 rfl rfl rfl ?_
                  refine zr_get (pc' := 135) dX2_layByDistance_132 rfl ps_57 kd_57 fl_X2_19 kc_2 (gv_57_1 _) ?_
                  refine zr_iload (pc' := 137) dX2_layByDistance_135 rfl rfl ?_
                  refine zr_iald (pc' := 138) dX2_layByDistance_137 rfl ps_59 kd_59 (by decide) h.1.1 h.1.2 ?_
                  have h := h.2
                  refine zr_istore (pc' := 140) (al' := [(4, .inl (M 59 l4.toNat)), (6, .inl (M 60 l4.toNat)), (0, .inr (.inr 57)), (1, .inl l1), (2, .inl l2), (3, .inl l3), (5, .inl l5)]) dX2_layByDistance_138 rfl (by decide) rfl ?_
                  refine zr_iinc (pc' := 143) (al' := [(5, .inl (l5 + 1)), (4, .inl (M 59 l4.toNat)), (6, .inl (M 60 l4.toNat)), (0, .inr (.inr 57)), (1, .inl l1), (2, .inl l2), (3, .inl l3)]) dX2_layByDistance_140 rfl rfl (by decide) rfl ?_
                  refine zr_goto (pc' := 53) dX2_layByDistance_143 rfl ?_
                  obtain ⟨n', hn, h⟩ := h
                  exact zn_al ((ih n' hn).2 _ _ _ _ _ _ h) ⟨rfl, rfl, rfl, rfl, rfl, rfl, trivial⟩
                · have h := h.2.2 hc
                  refine zr_aload_n (pc' := 106) (i := 0) dX2_layByDistance_105 rfl rfl rfl ?_
                  refine zr_get (pc' := 109) dX2_layByDistance_106 rfl ps_57 kd_57 fl_X2_28 kc_2 (gv_57_5 _) ?_
                  refine zr_iload (pc' := 111) dX2_layByDistance_109 rfl rfl ?_
                  refine zr_aload_n (pc' := 112) (i := 0) dX2_layByDistance_111 rfl rfl rfl ?_
                  refine zr_get (pc' := 115) dX2_layByDistance_112 rfl ps_57 kd_57 fl_X2_28 kc_2 (gv_57_5 _) ?_
                  refine zr_iload_n (pc' := 116) (i := 3) dX2_layByDistance_115 rfl rfl rfl ?_
                  refine zr_iald (pc' := 117) dX2_layByDistance_116 rfl ps_62 kd_62 (by decide) h.1.1 h.1.2 ?_
                  have h := h.2
                  refine zr_iconst (pc' := 118) dX2_layByDistance_117 rfl ?_
                  refine zr_iadd (pc' := 119) dX2_layByDistance_118 rfl ?_
                  refine zr_iast (pc' := 120) dX2_layByDistance_119 rfl ps_62 kd_62 (by decide) h.1.1 h.1.2 (fun M4 hM1 => ?_)
                  have h := h.2 M4 hM1
                  refine zr_aload_n (pc' := 121) (i := 0) dX2_layByDistance_120 rfl rfl rfl ?_
                  refine zr_get (pc' := 124) dX2_layByDistance_121 rfl ps_57 kd_57 fl_X2_34 kc_2 (gv_57_7 _) ?_
                  refine zr_iload_n (pc' := 125) (i := 1) dX2_layByDistance_124 rfl rfl rfl ?_
                  refine zr_iload (pc' := 127) dX2_layByDistance_125 rfl rfl ?_
                  refine zr_iast (pc' := 128) dX2_layByDistance_127 rfl ps_64 kd_64 (by decide) h.1.1 h.1.2 (fun M5 hM1 => ?_)
                  have h := h.2 M5 hM1
                  refine zr_iinc (pc' := 131) (al' := [(1, .inl (l1 + 1)), (6, .inl (M 60 l4.toNat)), (0, .inr (.inr 57)), (2, .inl l2), (3, .inl l3), (4, .inl l4), (5, .inl l5)]) dX2_layByDistance_128 rfl rfl (by decide) rfl ?_
                  refine zr_aload_n (pc' := 132) (i := 0) dX2_layByDistance_131 rfl rfl rfl ?_
                  refine zr_get (pc' := 135) dX2_layByDistance_132 rfl ps_57 kd_57 fl_X2_19 kc_2 (gv_57_1 _) ?_
                  refine zr_iload (pc' := 137) dX2_layByDistance_135 rfl rfl ?_
                  refine zr_iald (pc' := 138) dX2_layByDistance_137 rfl ps_59 kd_59 (by decide) h.1.1 h.1.2 ?_
                  have h := h.2
                  refine zr_istore (pc' := 140) (al' := [(4, .inl (M5 59 l4.toNat)), (1, .inl (l1 + 1)), (6, .inl (M 60 l4.toNat)), (0, .inr (.inr 57)), (2, .inl l2), (3, .inl l3), (5, .inl l5)]) dX2_layByDistance_138 rfl (by decide) rfl ?_
                  refine zr_iinc (pc' := 143) (al' := [(5, .inl (l5 + 1)), (4, .inl (M5 59 l4.toNat)), (1, .inl (l1 + 1)), (6, .inl (M 60 l4.toNat)), (0, .inr (.inr 57)), (2, .inl l2), (3, .inl l3)]) dX2_layByDistance_140 rfl rfl (by decide) rfl ?_
                  refine zr_goto (pc' := 53) dX2_layByDistance_143 rfl ?_
                  obtain ⟨n', hn, h⟩ := h
                  exact zn_al ((ih n' hn).2 _ _ _ _ _ _ h) ⟨rfl, rfl, rfl, rfl, rfl, rfl, trivial⟩
  refine zP_of (by decide +kernel) rfl (Nat.le_of_ble_eq_true rfl) ?_
  show zA E zNN (0, 0) mX2_layByDistance 0 [(0, .inr (.inr 57))] [] M (zQ Q)
  refine zr_aload_n (pc' := 1) (i := 0) dX2_layByDistance_0 rfl rfl rfl ?_
  refine zr_get (pc' := 4) dX2_layByDistance_1 rfl ps_57 kd_57 fl_X2_28 kc_2 (gv_57_5 _) ?_
  refine zr_iconst (pc' := 5) dX2_layByDistance_4 rfl ?_
  refine zn_callS (pc' := 8) (args := [.inr (.inr 62), .inl (-1)]) (st := []) (st' := fun _ => []) dX2_layByDistance_5 rfl cs_X2_44 ⟨rfl, rfl, by decide, by decide⟩ rfl rfl rfl (Nat.le_of_ble_eq_true rfl) (fun _ => rfl) (s_fill ps_62 kd_62 (by decide)) ?_
  intro _ M1 hM1
  have h := h M1 hM1
  refine zr_aload_n (pc' := 9) (i := 0) dX2_layByDistance_8 rfl rfl rfl ?_
  refine zr_get (pc' := 12) dX2_layByDistance_9 rfl ps_57 kd_57 fl_X2_28 kc_2 (gv_57_5 _) ?_
  refine zr_sipush (pc' := 15) dX2_layByDistance_12 rfl rfl ?_
  refine zr_iconst (pc' := 16) dX2_layByDistance_15 rfl ?_
  refine zr_iast (pc' := 17) dX2_layByDistance_16 rfl ps_62 kd_62 (by decide) (by decide) (by decide) (fun M2 hM1 => ?_)
  have h := h M2 hM1
  refine zr_aload_n (pc' := 18) (i := 0) dX2_layByDistance_17 rfl rfl rfl ?_
  refine zr_get (pc' := 21) dX2_layByDistance_18 rfl ps_57 kd_57 fl_X2_34 kc_2 (gv_57_7 _) ?_
  refine zr_iconst (pc' := 22) dX2_layByDistance_21 rfl ?_
  refine zr_sipush (pc' := 25) dX2_layByDistance_22 rfl rfl ?_
  refine zr_iast (pc' := 26) dX2_layByDistance_25 rfl ps_64 kd_64 (by decide) (by decide) (by decide) (fun M3 hM1 => ?_)
  have h := h M3 hM1
  refine zr_iconst (pc' := 27) dX2_layByDistance_26 rfl ?_
  refine zr_istore_n (pc' := 28) (i := 1) (al' := [(1, .inl 1), (0, .inr (.inr 57))]) dX2_layByDistance_27 rfl rfl (by decide) rfl ?_
  refine zr_iconst (pc' := 29) dX2_layByDistance_28 rfl ?_
  refine zr_istore_n (pc' := 30) (i := 2) (al' := [(2, .inl 0), (1, .inl 1), (0, .inr (.inr 57))]) dX2_layByDistance_29 rfl rfl (by decide) rfl ?_
  obtain ⟨n', h⟩ := h
  exact zn_al ((key n').1 _ _ _ h) ⟨rfl, rfl, rfl, trivial⟩
