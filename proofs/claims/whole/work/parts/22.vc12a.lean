set_option maxRecDepth 20000 in
theorem vcX12_thrown {E : zE} {M : zM} {Q : Int → zM → Prop}
    (h : Q (M 102 2) M)
    : zP E mX12_thrown [.inr (.inr 102)] M Q := by
  refine zP_of (by decide +kernel) rfl (Nat.le_of_ble_eq_true rfl) ?_
  show zA E zNN (0, 0) mX12_thrown 0 [(0, .inr (.inr 102))] [] M (zQ Q)
  refine zr_aload_n (pc' := 1) (i := 0) dX12_thrown_0 rfl rfl rfl ?_
  refine zr_get (pc' := 4) dX12_thrown_1 rfl ps_102 kd_102 fl_X12_208 kc_12 (gv_102_2 _) ?_
  exact zr_ireturn dX12_thrown_4 rfl rfl trivial (Nat.le_refl _) (Nat.le_refl _) (And.intro rfl h)
set_option maxRecDepth 20000 in
theorem vcX12_feed {E : zE} {M : zM} {Q : Int → zM → Prop} (l1 l2 l3 l4 l5 : Int) (I23 : Nat → Int → Int → Int → Int → Int → Int → zM → Prop)
    (h : (∀ M1, M1 = zup M 102 2 0 → ((zR ((M1 102 1) + 20)) ∧ ((((M1 102 1) + 20) ≤ 500 → ∃ n', I23 n' l1 l2 l3 l4 l5 0 M1) ∧ (500 < ((M1 102 1) + 20) → Q (-1) M1)))))
    (h23 : ∀ (n : Nat) (l1 l2 l3 l4 l5 l6 : Int) (M : zM), I23 n l1 l2 l3 l4 l5 l6 M → ((zR l6) ∧ ((20 ≤ l6 → (∀ M2, M2 = zup M 102 1 ((M 102 1) + 20) → Q (M2 102 1) M2)) ∧ (l6 < 20 → ((zR l6) ∧ ((4 ≤ l6 → ((zR l6) ∧ ((8 ≤ l6 → ((zR l6) ∧ ((12 ≤ l6 → ((zR l6) ∧ ((16 ≤ l6 → (zR l6) ∧ (0 ≤ (M 102 1) + l6 ∧ (M 102 1) + l6 < 500) ∧ (∀ M3, M3 = zup M 103 (((M 102 1) + l6).toNat) (zand (zshr l5 (24 - (8 * (Int.tmod l6 4)))) 255) → ∃ n', n' < n ∧ I23 n' l1 l2 l3 l4 l5 (l6 + 1) M3)) ∧ (l6 < 16 → (zR l6) ∧ (0 ≤ (M 102 1) + l6 ∧ (M 102 1) + l6 < 500) ∧ (∀ M4, M4 = zup M 103 (((M 102 1) + l6).toNat) (zand (zshr l4 (24 - (8 * (Int.tmod l6 4)))) 255) → ∃ n', n' < n ∧ I23 n' l1 l2 l3 l4 l5 (l6 + 1) M4))))) ∧ (l6 < 12 → (zR l6) ∧ (0 ≤ (M 102 1) + l6 ∧ (M 102 1) + l6 < 500) ∧ (∀ M5, M5 = zup M 103 (((M 102 1) + l6).toNat) (zand (zshr l3 (24 - (8 * (Int.tmod l6 4)))) 255) → ∃ n', n' < n ∧ I23 n' l1 l2 l3 l4 l5 (l6 + 1) M5))))) ∧ (l6 < 8 → (zR l6) ∧ (0 ≤ (M 102 1) + l6 ∧ (M 102 1) + l6 < 500) ∧ (∀ M6, M6 = zup M 103 (((M 102 1) + l6).toNat) (zand (zshr l2 (24 - (8 * (Int.tmod l6 4)))) 255) → ∃ n', n' < n ∧ I23 n' l1 l2 l3 l4 l5 (l6 + 1) M6))))) ∧ (l6 < 4 → (zR l6) ∧ (0 ≤ (M 102 1) + l6 ∧ (M 102 1) + l6 < 500) ∧ (∀ M7, M7 = zup M 103 (((M 102 1) + l6).toNat) (zand (zshr l1 (24 - (8 * (Int.tmod l6 4)))) 255) → ∃ n', n' < n ∧ I23 n' l1 l2 l3 l4 l5 (l6 + 1) M7))))))))
    : zP E mX12_feed [.inr (.inr 102), .inl l1, .inl l2, .inl l3, .inl l4, .inl l5] M Q := by
  have key : ∀ n : Nat, (∀ (l1 l2 l3 l4 l5 l6 : Int) (M : zM), I23 n l1 l2 l3 l4 l5 l6 M → zA E zNN (0, 0) mX12_feed 23 [(0, .inr (.inr 102)), (1, .inl l1), (2, .inl l2), (3, .inl l3), (4, .inl l4), (5, .inl l5), (6, .inl l6)] [] M (zQ Q)) := by
    intro n
    induction n using Nat.strongRecOn with
    | ind n ih =>
      intro l1 l2 l3 l4 l5 l6 M h
      have h := h23 n l1 l2 l3 l4 l5 l6 M h
      refine zr_iload (pc' := 25) dX12_feed_23 rfl rfl ?_
      refine zr_bipush (pc' := 27) dX12_feed_25 rfl rfl ?_
      refine zr_icmp_ge (tgt := 113) (pc' := 30) dX12_feed_27 rfl rfl h.1 (zRd rfl) (fun hc => ?_) (fun hc => ?_)
      · have h := h.2.1 hc
        refine zr_aload_n (pc' := 114) (i := 0) dX12_feed_113 rfl rfl rfl ?_
        refine zr_dup (pc' := 115) dX12_feed_114 rfl rfl ?_
        refine zr_get (pc' := 118) dX12_feed_115 rfl ps_102 kd_102 fl_X12_211 kc_12 (gv_102_1 _) ?_
        refine zr_bipush (pc' := 120) dX12_feed_118 rfl rfl ?_
        refine zr_iadd (pc' := 121) dX12_feed_120 rfl ?_
        refine zr_put (pc' := 124) dX12_feed_121 rfl ps_102 kd_102 fl_X12_211 kc_12 rfl nf_102_1 rfl trivial (fun M2 hM1 => ?_)
        have h := h M2 hM1
        refine zr_aload_n (pc' := 125) (i := 0) dX12_feed_124 rfl rfl rfl ?_
        refine zr_get (pc' := 128) dX12_feed_125 rfl ps_102 kd_102 fl_X12_211 kc_12 (gv_102_1 _) ?_
        exact zr_ireturn dX12_feed_128 rfl rfl trivial (Nat.le_refl _) (Nat.le_refl _) (And.intro rfl h)
      · have h := h.2.2 hc
        refine zr_iload (pc' := 32) dX12_feed_30 rfl rfl ?_
        refine zr_iconst (pc' := 33) dX12_feed_32 rfl ?_
        refine zr_icmp_ge (tgt := 40) (pc' := 36) dX12_feed_33 rfl rfl h.1 (zRd rfl) (fun hc => ?_) (fun hc => ?_)
        · have h := h.2.1 hc
          refine zr_iload (pc' := 42) dX12_feed_40 rfl rfl ?_
          refine zr_bipush (pc' := 44) dX12_feed_42 rfl rfl ?_
          refine zr_icmp_ge (tgt := 51) (pc' := 47) dX12_feed_44 rfl rfl h.1 (zRd rfl) (fun hc => ?_) (fun hc => ?_)
          · have h := h.2.1 hc
            refine zr_iload (pc' := 53) dX12_feed_51 rfl rfl ?_
            refine zr_bipush (pc' := 55) dX12_feed_53 rfl rfl ?_
            refine zr_icmp_ge (tgt := 62) (pc' := 58) dX12_feed_55 rfl rfl h.1 (zRd rfl) (fun hc => ?_) (fun hc => ?_)
            · have h := h.2.1 hc
              refine zr_iload (pc' := 64) dX12_feed_62 rfl rfl ?_
              refine zr_bipush (pc' := 66) dX12_feed_64 rfl rfl ?_
              refine zr_icmp_ge (tgt := 74) (pc' := 69) dX12_feed_66 rfl rfl h.1 (zRd rfl) (fun hc => ?_) (fun hc => ?_)
              · have h := h.2.1 hc
                refine zr_iload (pc' := 76) dX12_feed_74 rfl rfl ?_
                refine zr_istore (pc' := 78) (al' := [(7, .inl l5), (0, .inr (.inr 102)), (1, .inl l1), (2, .inl l2), (3, .inl l3), (4, .inl l4), (5, .inl l5), (6, .inl l6)]) dX12_feed_76 rfl (by decide) rfl ?_
                refine zr_aload_n (pc' := 79) (i := 0) dX12_feed_78 rfl rfl rfl ?_
                refine zr_get (pc' := 82) dX12_feed_79 rfl ps_102 kd_102 fl_X12_7 kc_12 (gv_102_0 _) ?_
                refine zr_aload_n (pc' := 83) (i := 0) dX12_feed_82 rfl rfl rfl ?_
                refine zr_get (pc' := 86) dX12_feed_83 rfl ps_102 kd_102 fl_X12_211 kc_12 (gv_102_1 _) ?_
                refine zr_iload (pc' := 88) dX12_feed_86 rfl rfl ?_
                refine zr_iadd (pc' := 89) dX12_feed_88 rfl ?_
                refine zr_iload (pc' := 91) dX12_feed_89 rfl rfl ?_
                refine zr_bipush (pc' := 93) dX12_feed_91 rfl rfl ?_
                refine zr_bipush (pc' := 95) dX12_feed_93 rfl rfl ?_
                refine zr_iload (pc' := 97) dX12_feed_95 rfl rfl ?_
                refine zr_iconst (pc' := 98) dX12_feed_97 rfl ?_
                refine zr_irem (pc' := 99) dX12_feed_98 rfl h.1 (zRd rfl) (by decide) ?_
                have h := h.2
                refine zr_imul (pc' := 100) dX12_feed_99 rfl ?_
                refine zr_isub (pc' := 101) dX12_feed_100 rfl ?_
                refine zr_ishr (pc' := 102) dX12_feed_101 rfl ?_
                refine zr_sipush (pc' := 105) dX12_feed_102 rfl rfl ?_
                refine zr_iand (pc' := 106) dX12_feed_105 rfl ?_
                refine zr_iast (pc' := 107) dX12_feed_106 rfl ps_103 kd_103 (by decide) h.1.1 h.1.2 (fun M3 hM1 => ?_)
                have h := h.2 M3 hM1
                refine zr_iinc (pc' := 110) (al' := [(6, .inl (l6 + 1)), (7, .inl l5), (0, .inr (.inr 102)), (1, .inl l1), (2, .inl l2), (3, .inl l3), (4, .inl l4), (5, .inl l5)]) dX12_feed_107 rfl rfl (by decide) rfl ?_
                refine zr_goto (pc' := 23) dX12_feed_110 rfl ?_
                obtain ⟨n', hn, h⟩ := h
                exact zn_al ((ih n' hn) _ _ _ _ _ _ _ h) ⟨rfl, rfl, rfl, rfl, rfl, rfl, rfl, trivial⟩
              · have h := h.2.2 hc
                refine zr_iload (pc' := 71) dX12_feed_69 rfl rfl ?_
                refine zr_goto (pc' := 76) dX12_feed_71 rfl ?_
                refine zr_istore (pc' := 78) (al' := [(7, .inl l4), (0, .inr (.inr 102)), (1, .inl l1), (2, .inl l2), (3, .inl l3), (4, .inl l4), (5, .inl l5), (6, .inl l6)]) dX12_feed_76 rfl (by decide) rfl ?_
                refine zr_aload_n (pc' := 79) (i := 0) dX12_feed_78 rfl rfl rfl ?_
                refine zr_get (pc' := 82) dX12_feed_79 rfl ps_102 kd_102 fl_X12_7 kc_12 (gv_102_0 _) ?_
                refine zr_aload_n (pc' := 83) (i := 0) dX12_feed_82 rfl rfl rfl ?_
                refine zr_get (pc' := 86) dX12_feed_83 rfl ps_102 kd_102 fl_X12_211 kc_12 (gv_102_1 _) ?_
                refine zr_iload (pc' := 88) dX12_feed_86 rfl rfl ?_
                refine zr_iadd (pc' := 89) dX12_feed_88 rfl ?_
                refine zr_iload (pc' := 91) dX12_feed_89 rfl rfl ?_
                refine zr_bipush (pc' := 93) dX12_feed_91 rfl rfl ?_
                refine zr_bipush (pc' := 95) dX12_feed_93 rfl rfl ?_
                refine zr_iload (pc' := 97) dX12_feed_95 rfl rfl ?_
                refine zr_iconst (pc' := 98) dX12_feed_97 rfl ?_
                refine zr_irem (pc' := 99) dX12_feed_98 rfl h.1 (zRd rfl) (by decide) ?_
                have h := h.2
                refine zr_imul (pc' := 100) dX12_feed_99 rfl ?_
                refine zr_isub (pc' := 101) dX12_feed_100 rfl ?_
                refine zr_ishr (pc' := 102) dX12_feed_101 rfl ?_
                refine zr_sipush (pc' := 105) dX12_feed_102 rfl rfl ?_
                refine zr_iand (pc' := 106) dX12_feed_105 rfl ?_
                refine zr_iast (pc' := 107) dX12_feed_106 rfl ps_103 kd_103 (by decide) h.1.1 h.1.2 (fun M4 hM1 => ?_)
                have h := h.2 M4 hM1
                refine zr_iinc (pc' := 110) (al' := [(6, .inl (l6 + 1)), (7, .inl l4), (0, .inr (.inr 102)), (1, .inl l1), (2, .inl l2), (3, .inl l3), (4, .inl l4), (5, .inl l5)]) dX12_feed_107 rfl rfl (by decide) rfl ?_
                refine zr_goto (pc' := 23) dX12_feed_110 rfl ?_
                obtain ⟨n', hn, h⟩ := h
                exact zn_al ((ih n' hn) _ _ _ _ _ _ _ h) ⟨rfl, rfl, rfl, rfl, rfl, rfl, rfl, trivial⟩
            · have h := h.2.2 hc
              refine zr_iload_n (pc' := 59) (i := 3) dX12_feed_58 rfl rfl rfl ?_
              refine zr_goto (pc' := 76) dX12_feed_59 rfl ?_
              refine zr_istore (pc' := 78) (al' := [(7, .inl l3), (0, .inr (.inr 102)), (1, .inl l1), (2, .inl l2), (3, .inl l3), (4, .inl l4), (5, .inl l5), (6, .inl l6)]) dX12_feed_76 rfl (by decide) rfl ?_
              refine zr_aload_n (pc' := 79) (i := 0) dX12_feed_78 rfl rfl rfl ?_
              refine zr_get (pc' := 82) dX12_feed_79 rfl ps_102 kd_102 fl_X12_7 kc_12 (gv_102_0 _) ?_
              refine zr_aload_n (pc' := 83) (i := 0) dX12_feed_82 rfl rfl rfl ?_
              refine zr_get (pc' := 86) dX12_feed_83 rfl ps_102 kd_102 fl_X12_211 kc_12 (gv_102_1 _) ?_
              refine zr_iload (pc' := 88) dX12_feed_86 rfl rfl ?_
              refine zr_iadd (pc' := 89) dX12_feed_88 rfl ?_
              refine zr_iload (pc' := 91) dX12_feed_89 rfl rfl ?_
              refine zr_bipush (pc' := 93) dX12_feed_91 rfl rfl ?_
              refine zr_bipush (pc' := 95) dX12_feed_93 rfl rfl ?_
              refine zr_iload (pc' := 97) dX12_feed_95 rfl rfl ?_
              refine zr_iconst (pc' := 98) dX12_feed_97 rfl ?_
              refine zr_irem (pc' := 99) dX12_feed_98 rfl h.1 (zRd rfl) (by decide) ?_
              have h := h.2
              refine zr_imul (pc' := 100) dX12_feed_99 rfl ?_
              refine zr_isub (pc' := 101) dX12_feed_100 rfl ?_
              refine zr_ishr (pc' := 102) dX12_feed_101 rfl ?_
              refine zr_sipush (pc' := 105) dX12_feed_102 rfl rfl ?_
              refine zr_iand (pc' := 106) dX12_feed_105 rfl ?_
              refine zr_iast (pc' := 107) dX12_feed_106 rfl ps_103 kd_103 (by decide) h.1.1 h.1.2 (fun M5 hM1 => ?_)
              have h := h.2 M5 hM1
              refine zr_iinc (pc' := 110) (al' := [(6, .inl (l6 + 1)), (7, .inl l3), (0, .inr (.inr 102)), (1, .inl l1), (2, .inl l2), (3, .inl l3), (4, .inl l4), (5, .inl l5)]) dX12_feed_107 rfl rfl (by decide) rfl ?_
              refine zr_goto (pc' := 23) dX12_feed_110 rfl ?_
              obtain ⟨n', hn, h⟩ := h
              exact zn_al ((ih n' hn) _ _ _ _ _ _ _ h) ⟨rfl, rfl, rfl, rfl, rfl, rfl, rfl, trivial⟩
          · have h := h.2.2 hc
            refine zr_iload_n (pc' := 48) (i := 2) dX12_feed_47 rfl rfl rfl ?_
            refine zr_goto (pc' := 76) dX12_feed_48 rfl ?_
            refine zr_istore (pc' := 78) (al' := [(7, .inl l2), (0, .inr (.inr 102)), (1, .inl l1), (2, .inl l2), (3, .inl l3), (4, .inl l4), (5, .inl l5), (6, .inl l6)]) dX12_feed_76 rfl (by decide) rfl ?_
            refine zr_aload_n (pc' := 79) (i := 0) dX12_feed_78 rfl rfl rfl ?_
            refine zr_get (pc' := 82) dX12_feed_79 rfl ps_102 kd_102 fl_X12_7 kc_12 (gv_102_0 _) ?_
            refine zr_aload_n (pc' := 83) (i := 0) dX12_feed_82 rfl rfl rfl ?_
            refine zr_get (pc' := 86) dX12_feed_83 rfl ps_102 kd_102 fl_X12_211 kc_12 (gv_102_1 _) ?_
            refine zr_iload (pc' := 88) dX12_feed_86 rfl rfl ?_
            refine zr_iadd (pc' := 89) dX12_feed_88 rfl ?_
            refine zr_iload (pc' := 91) dX12_feed_89 rfl rfl ?_
            refine zr_bipush (pc' := 93) dX12_feed_91 rfl rfl ?_
            refine zr_bipush (pc' := 95) dX12_feed_93 rfl rfl ?_
            refine zr_iload (pc' := 97) dX12_feed_95 rfl rfl ?_
            refine zr_iconst (pc' := 98) dX12_feed_97 rfl ?_
            refine zr_irem (pc' := 99) dX12_feed_98 rfl h.1 (zRd rfl) (by decide) ?_
            have h := h.2
            refine zr_imul (pc' := 100) dX12_feed_99 rfl ?_
            refine zr_isub (pc' := 101) dX12_feed_100 rfl ?_
            refine zr_ishr (pc' := 102) dX12_feed_101 rfl ?_
            refine zr_sipush (pc' := 105) dX12_feed_102 rfl rfl ?_
            refine zr_iand (pc' := 106) dX12_feed_105 rfl ?_
            refine zr_iast (pc' := 107) dX12_feed_106 rfl ps_103 kd_103 (by decide) h.1.1 h.1.2 (fun M6 hM1 => ?_)
            have h := h.2 M6 hM1
            refine zr_iinc (pc' := 110) (al' := [(6, .inl (l6 + 1)), (7, .inl l2), (0, .inr (.inr 102)), (1, .inl l1), (2, .inl l2), (3, .inl l3), (4, .inl l4), (5, .inl l5)]) dX12_feed_107 rfl rfl (by decide) rfl ?_
            refine zr_goto (pc' := 23) dX12_feed_110 rfl ?_
            obtain ⟨n', hn, h⟩ := h
            exact zn_al ((ih n' hn) _ _ _ _ _ _ _ h) ⟨rfl, rfl, rfl, rfl, rfl, rfl, rfl, trivial⟩
        · have h := h.2.2 hc
          refine zr_iload_n (pc' := 37) (i := 1) dX12_feed_36 rfl rfl rfl ?_
          refine zr_goto (pc' := 76) dX12_feed_37 rfl ?_
          refine zr_istore (pc' := 78) (al' := [(7, .inl l1), (0, .inr (.inr 102)), (1, .inl l1), (2, .inl l2), (3, .inl l3), (4, .inl l4), (5, .inl l5), (6, .inl l6)]) dX12_feed_76 rfl (by decide) rfl ?_
          refine zr_aload_n (pc' := 79) (i := 0) dX12_feed_78 rfl rfl rfl ?_
          refine zr_get (pc' := 82) dX12_feed_79 rfl ps_102 kd_102 fl_X12_7 kc_12 (gv_102_0 _) ?_
          refine zr_aload_n (pc' := 83) (i := 0) dX12_feed_82 rfl rfl rfl ?_
          refine zr_get (pc' := 86) dX12_feed_83 rfl ps_102 kd_102 fl_X12_211 kc_12 (gv_102_1 _) ?_
          refine zr_iload (pc' := 88) dX12_feed_86 rfl rfl ?_
          refine zr_iadd (pc' := 89) dX12_feed_88 rfl ?_
          refine zr_iload (pc' := 91) dX12_feed_89 rfl rfl ?_
          refine zr_bipush (pc' := 93) dX12_feed_91 rfl rfl ?_
          refine zr_bipush (pc' := 95) dX12_feed_93 rfl rfl ?_
          refine zr_iload (pc' := 97) dX12_feed_95 rfl rfl ?_
          refine zr_iconst (pc' := 98) dX12_feed_97 rfl ?_
          refine zr_irem (pc' := 99) dX12_feed_98 rfl h.1 (zRd rfl) (by decide) ?_
          have h := h.2
          refine zr_imul (pc' := 100) dX12_feed_99 rfl ?_
          refine zr_isub (pc' := 101) dX12_feed_100 rfl ?_
          refine zr_ishr (pc' := 102) dX12_feed_101 rfl ?_
          refine zr_sipush (pc' := 105) dX12_feed_102 rfl rfl ?_
          refine zr_iand (pc' := 106) dX12_feed_105 rfl ?_
          refine zr_iast (pc' := 107) dX12_feed_106 rfl ps_103 kd_103 (by decide) h.1.1 h.1.2 (fun M7 hM1 => ?_)
          have h := h.2 M7 hM1
          refine zr_iinc (pc' := 110) (al' := [(6, .inl (l6 + 1)), (7, .inl l1), (0, .inr (.inr 102)), (1, .inl l1), (2, .inl l2), (3, .inl l3), (4, .inl l4), (5, .inl l5)]) dX12_feed_107 rfl rfl (by decide) rfl ?_
          refine zr_goto (pc' := 23) dX12_feed_110 rfl ?_
          obtain ⟨n', hn, h⟩ := h
          exact zn_al ((ih n' hn) _ _ _ _ _ _ _ h) ⟨rfl, rfl, rfl, rfl, rfl, rfl, rfl, trivial⟩
  refine zP_of (by decide +kernel) rfl (Nat.le_of_ble_eq_true rfl) ?_
  show zA E zNN (0, 0) mX12_feed 0 [(0, .inr (.inr 102)), (1, .inl l1), (2, .inl l2), (3, .inl l3), (4, .inl l4), (5, .inl l5)] [] M (zQ Q)
  refine zr_aload_n (pc' := 1) (i := 0) dX12_feed_0 rfl rfl rfl ?_
  refine zr_iconst (pc' := 2) dX12_feed_1 rfl ?_
  refine zr_put (pc' := 5) dX12_feed_2 rfl ps_102 kd_102 fl_X12_208 kc_12 rfl nf_102_2 rfl trivial (fun M1 hM1 => ?_)
  have h := h M1 hM1
  refine zr_aload_n (pc' := 6) (i := 0) dX12_feed_5 rfl rfl rfl ?_
  refine zr_get (pc' := 9) dX12_feed_6 rfl ps_102 kd_102 fl_X12_211 kc_12 (gv_102_1 _) ?_
  refine zr_bipush (pc' := 11) dX12_feed_9 rfl rfl ?_
  refine zr_iadd (pc' := 12) dX12_feed_11 rfl ?_
  refine zr_sipush (pc' := 15) dX12_feed_12 rfl rfl ?_
  refine zr_icmp_le (tgt := 20) (pc' := 18) dX12_feed_15 rfl rfl h.1 (zRd rfl) (fun hc => ?_) (fun hc => ?_)
  · have h := h.2.1 hc
    refine zr_iconst (pc' := 21) dX12_feed_20 rfl ?_
    refine zr_istore (pc' := 23) (al' := [(6, .inl 0), (0, .inr (.inr 102)), (1, .inl l1), (2, .inl l2), (3, .inl l3), (4, .inl l4), (5, .inl l5)]) dX12_feed_21 rfl (by decide) rfl ?_
    obtain ⟨n', h⟩ := h
    exact zn_al ((key n') _ _ _ _ _ _ _ h) ⟨rfl, rfl, rfl, rfl, rfl, rfl, rfl, trivial⟩
  · have h := h.2.2 hc
    refine zr_iconst (pc' := 19) dX12_feed_18 rfl ?_
    exact zr_ireturn dX12_feed_19 rfl rfl trivial (Nat.le_refl _) (Nat.le_refl _) (And.intro rfl h)
set_option maxRecDepth 20000 in
theorem vcX12_isIn {E : zE} {M : zM} {Q : Int → zM → Prop} (l0 l1 l2 : Int)
    (h : ((zR l0 ∧ zR l1) ∧ ((l0 < l1 → Q 0 M) ∧ (l1 ≤ l0 → ((zR l0 ∧ zR l2) ∧ ((l2 < l0 → Q 0 M) ∧ (l0 ≤ l2 → Q 1 M)))))))
    : zP E mX12_isIn [.inl l0, .inl l1, .inl l2] M Q := by
  refine zP_of (by decide +kernel) rfl (Nat.le_of_ble_eq_true rfl) ?_
  show zA E zNN (0, 0) mX12_isIn 0 [(0, .inl l0), (1, .inl l1), (2, .inl l2)] [] M (zQ Q)
  refine zr_iload_n (pc' := 1) (i := 0) dX12_isIn_0 rfl rfl rfl ?_
  refine zr_iload_n (pc' := 2) (i := 1) dX12_isIn_1 rfl rfl rfl ?_
  refine zr_icmp_lt (tgt := 14) (pc' := 5) dX12_isIn_2 rfl rfl h.1.1 h.1.2 (fun hc => ?_) (fun hc => ?_)
  · have h := h.2.1 hc
    refine zr_iconst (pc' := 15) dX12_isIn_14 rfl ?_
    exact zr_ireturn dX12_isIn_15 rfl rfl (Or.inl rfl) (Nat.le_refl _) (Nat.le_refl _) (And.intro rfl h)
  · have h := h.2.2 hc
    refine zr_iload_n (pc' := 6) (i := 0) dX12_isIn_5 rfl rfl rfl ?_
    refine zr_iload_n (pc' := 7) (i := 2) dX12_isIn_6 rfl rfl rfl ?_
    refine zr_icmp_gt (tgt := 14) (pc' := 10) dX12_isIn_7 rfl rfl h.1.1 h.1.2 (fun hc => ?_) (fun hc => ?_)
    · have h := h.2.1 hc
      refine zr_iconst (pc' := 15) dX12_isIn_14 rfl ?_
      exact zr_ireturn dX12_isIn_15 rfl rfl (Or.inl rfl) (Nat.le_refl _) (Nat.le_refl _) (And.intro rfl h)
    · have h := h.2.2 hc
      refine zr_iconst (pc' := 11) dX12_isIn_10 rfl ?_
      refine zr_goto (pc' := 15) dX12_isIn_11 rfl ?_
      exact zr_ireturn dX12_isIn_15 rfl rfl (Or.inr rfl) (Nat.le_refl _) (Nat.le_refl _) (And.intro rfl h)
set_option maxRecDepth 20000 in
theorem vcX12_isHour {E : zE} {M : zM} {Q : Int → zM → Prop} (l0 : Int)
    (h : ((zR l0) ∧ ((l0 < 0 → Q 0 M) ∧ (0 ≤ l0 → ((zR l0) ∧ ((99 < l0 → Q 0 M) ∧ (l0 ≤ 99 → Q 1 M)))))))
    : zP E mX12_isHour [.inl l0] M Q := by
  refine zP_of (by decide +kernel) rfl (Nat.le_of_ble_eq_true rfl) ?_
  show zA E zNN (0, 0) mX12_isHour 0 [(0, .inl l0)] [] M (zQ Q)
  refine zr_iload_n (pc' := 1) (i := 0) dX12_isHour_0 rfl rfl rfl ?_
  refine zr_if_lt (tgt := 14) (pc' := 4) dX12_isHour_1 rfl rfl h.1 (fun hc => ?_) (fun hc => ?_)
  · have h := h.2.1 hc
    refine zr_iconst (pc' := 15) dX12_isHour_14 rfl ?_
    exact zr_ireturn dX12_isHour_15 rfl rfl (Or.inl rfl) (Nat.le_refl _) (Nat.le_refl _) (And.intro rfl h)
  · have h := h.2.2 hc
    refine zr_iload_n (pc' := 5) (i := 0) dX12_isHour_4 rfl rfl rfl ?_
    refine zr_bipush (pc' := 7) dX12_isHour_5 rfl rfl ?_
    refine zr_icmp_gt (tgt := 14) (pc' := 10) dX12_isHour_7 rfl rfl h.1 (zRd rfl) (fun hc => ?_) (fun hc => ?_)
    · have h := h.2.1 hc
      refine zr_iconst (pc' := 15) dX12_isHour_14 rfl ?_
      exact zr_ireturn dX12_isHour_15 rfl rfl (Or.inl rfl) (Nat.le_refl _) (Nat.le_refl _) (And.intro rfl h)
    · have h := h.2.2 hc
      refine zr_iconst (pc' := 11) dX12_isHour_10 rfl ?_
      refine zr_goto (pc' := 15) dX12_isHour_11 rfl ?_
      exact zr_ireturn dX12_isHour_15 rfl rfl (Or.inr rfl) (Nat.le_refl _) (Nat.le_refl _) (And.intro rfl h)
set_option maxRecDepth 20000 in
theorem vcX12_hours {E : zE} {M : zM} {Q : Int → zM → Prop} (l1 : Int)
    (h : (∀ M1, M1 = zup M 102 2 0 → (zP E mX12_isIn [.inl l1, .inl 0, .inl 99] M1 (fun r2 M3 => ((zR r2) ∧ ((r2 = 0 → Q (-1) M3) ∧ (¬ r2 = 0 → ((zR ((M3 102 3) + l1)) ∧ ((((M3 102 3) + l1) ≤ 99 → (∀ M4, M4 = zup M3 102 3 ((M3 102 3) + l1) → Q (M4 102 3) M4)) ∧ (99 < ((M3 102 3) + l1) → Q (-1) M3))))))))))
    : zP E mX12_hours [.inr (.inr 102), .inl l1] M Q := by
  refine zP_of (by decide +kernel) rfl (Nat.le_of_ble_eq_true rfl) ?_
  show zA E zNN (0, 0) mX12_hours 0 [(0, .inr (.inr 102)), (1, .inl l1)] [] M (zQ Q)
  refine zr_aload_n (pc' := 1) (i := 0) dX12_hours_0 rfl rfl rfl ?_
  refine zr_iconst (pc' := 2) dX12_hours_1 rfl ?_
  refine zr_put (pc' := 5) dX12_hours_2 rfl ps_102 kd_102 fl_X12_208 kc_12 rfl nf_102_2 rfl trivial (fun M1 hM1 => ?_)
  have h := h M1 hM1
  refine zr_iload_n (pc' := 6) (i := 1) dX12_hours_5 rfl rfl rfl ?_
  refine zr_iconst (pc' := 7) dX12_hours_6 rfl ?_
  refine zr_bipush (pc' := 9) dX12_hours_7 rfl rfl ?_
  refine zn_callS (pc' := 12) (args := [.inl l1, .inl 0, .inl 99]) (st := []) (st' := fun r2 => [.inl r2]) dX12_hours_9 rfl cs_X12_214 ⟨rfl, rfl, by decide, by decide⟩ rfl rfl rfl (Nat.le_of_ble_eq_true rfl) (fun _ => rfl) h ?_
  intro r2 M3 h
  refine zr_if_eq (tgt := 26) (pc' := 15) dX12_hours_12 rfl rfl h.1 (fun hc => ?_) (fun hc => ?_)
  · have h := h.2.1 hc
    refine zr_iconst (pc' := 27) dX12_hours_26 rfl ?_
    exact zr_ireturn dX12_hours_27 rfl rfl trivial (Nat.le_refl _) (Nat.le_refl _) (And.intro rfl h)
  · have h := h.2.2 hc
    refine zr_aload_n (pc' := 16) (i := 0) dX12_hours_15 rfl rfl rfl ?_
    refine zr_get (pc' := 19) dX12_hours_16 rfl ps_102 kd_102 fl_X12_218 kc_12 (gv_102_3 _) ?_
    refine zr_iload_n (pc' := 20) (i := 1) dX12_hours_19 rfl rfl rfl ?_
    refine zr_iadd (pc' := 21) dX12_hours_20 rfl ?_
    refine zr_bipush (pc' := 23) dX12_hours_21 rfl rfl ?_
    refine zr_icmp_le (tgt := 28) (pc' := 26) dX12_hours_23 rfl rfl h.1 (zRd rfl) (fun hc => ?_) (fun hc => ?_)
    · have h := h.2.1 hc
      refine zr_aload_n (pc' := 29) (i := 0) dX12_hours_28 rfl rfl rfl ?_
      refine zr_dup (pc' := 30) dX12_hours_29 rfl rfl ?_
      refine zr_get (pc' := 33) dX12_hours_30 rfl ps_102 kd_102 fl_X12_218 kc_12 (gv_102_3 _) ?_
      refine zr_iload_n (pc' := 34) (i := 1) dX12_hours_33 rfl rfl rfl ?_
      refine zr_iadd (pc' := 35) dX12_hours_34 rfl ?_
      refine zr_put (pc' := 38) dX12_hours_35 rfl ps_102 kd_102 fl_X12_218 kc_12 rfl nf_102_3 rfl trivial (fun M4 hM1 => ?_)
      have h := h M4 hM1
      refine zr_aload_n (pc' := 39) (i := 0) dX12_hours_38 rfl rfl rfl ?_
      refine zr_get (pc' := 42) dX12_hours_39 rfl ps_102 kd_102 fl_X12_218 kc_12 (gv_102_3 _) ?_
      exact zr_ireturn dX12_hours_42 rfl rfl trivial (Nat.le_refl _) (Nat.le_refl _) (And.intro rfl h)
    · have h := h.2.2 hc
      refine zr_iconst (pc' := 27) dX12_hours_26 rfl ?_
      exact zr_ireturn dX12_hours_27 rfl rfl trivial (Nat.le_refl _) (Nat.le_refl _) (And.intro rfl h)
set_option maxRecDepth 20000 in
theorem vcX12_post {E : zE} {M : zM} {Q : Int → zM → Prop} (l1 : Int)
    (h : (∀ M1, M1 = zup M 102 2 0 → ((zR (M1 102 4)) ∧ (((M1 102 4) = 8 → Q (-1) M1) ∧ (¬ (M1 102 4) = 8 → (zP E mX12_isIn [.inl l1, .inl 0, .inl 3] M1 (fun r2 M3 => ((zR r2) ∧ ((¬ r2 = 0 → (0 ≤ M3 102 4 ∧ M3 102 4 < 8) ∧ (∀ M4, M4 = zup M3 104 ((M3 102 4).toNat) l1 → (∀ M5, M5 = zup M4 102 4 ((M4 102 4) + 1) → Q ((M5 102 4) - 1) M5))) ∧ (r2 = 0 → Q (-1) M3))))))))))
    : zP E mX12_post [.inr (.inr 102), .inl l1] M Q := by
  refine zP_of (by decide +kernel) rfl (Nat.le_of_ble_eq_true rfl) ?_
  show zA E zNN (0, 0) mX12_post 0 [(0, .inr (.inr 102)), (1, .inl l1)] [] M (zQ Q)
  refine zr_aload_n (pc' := 1) (i := 0) dX12_post_0 rfl rfl rfl ?_
  refine zr_iconst (pc' := 2) dX12_post_1 rfl ?_
  refine zr_put (pc' := 5) dX12_post_2 rfl ps_102 kd_102 fl_X12_208 kc_12 rfl nf_102_2 rfl trivial (fun M1 hM1 => ?_)
  have h := h M1 hM1
  refine zr_aload_n (pc' := 6) (i := 0) dX12_post_5 rfl rfl rfl ?_
  refine zr_get (pc' := 9) dX12_post_6 rfl ps_102 kd_102 fl_X12_221 kc_12 (gv_102_4 _) ?_
  refine zr_bipush (pc' := 11) dX12_post_9 rfl rfl ?_
  refine zr_icmp_eq (tgt := 23) (pc' := 14) dX12_post_11 rfl rfl h.1 (zRd rfl) (fun hc => ?_) (fun hc => ?_)
  · have h := h.2.1 hc
    refine zr_iconst (pc' := 24) dX12_post_23 rfl ?_
    exact zr_ireturn dX12_post_24 rfl rfl trivial (Nat.le_refl _) (Nat.le_refl _) (And.intro rfl h)
  · have h := h.2.2 hc
    refine zr_iload_n (pc' := 15) (i := 1) dX12_post_14 rfl rfl rfl ?_
    refine zr_iconst (pc' := 16) dX12_post_15 rfl ?_
    refine zr_iconst (pc' := 17) dX12_post_16 rfl ?_
    refine zn_callS (pc' := 20) (args := [.inl l1, .inl 0, .inl 3]) (st := []) (st' := fun r2 => [.inl r2]) dX12_post_17 rfl cs_X12_214 ⟨rfl, rfl, by decide, by decide⟩ rfl rfl rfl (Nat.le_of_ble_eq_true rfl) (fun _ => rfl) h ?_
    intro r2 M3 h
    refine zr_if_ne (tgt := 25) (pc' := 23) dX12_post_20 rfl rfl h.1 (fun hc => ?_) (fun hc => ?_)
    · have h := h.2.1 hc
      refine zr_aload_n (pc' := 26) (i := 0) dX12_post_25 rfl rfl rfl ?_
      refine zr_get (pc' := 29) dX12_post_26 rfl ps_102 kd_102 fl_X12_13 kc_12 (gv_102_5 _) ?_
      refine zr_aload_n (pc' := 30) (i := 0) dX12_post_29 rfl rfl rfl ?_
      refine zr_get (pc' := 33) dX12_post_30 rfl ps_102 kd_102 fl_X12_221 kc_12 (gv_102_4 _) ?_
      refine zr_iload_n (pc' := 34) (i := 1) dX12_post_33 rfl rfl rfl ?_
      refine zr_iast (pc' := 35) dX12_post_34 rfl ps_104 kd_104 (by decide) h.1.1 h.1.2 (fun M4 hM1 => ?_)
      have h := h.2 M4 hM1
      refine zr_aload_n (pc' := 36) (i := 0) dX12_post_35 rfl rfl rfl ?_
      refine zr_dup (pc' := 37) dX12_post_36 rfl rfl ?_
      refine zr_get (pc' := 40) dX12_post_37 rfl ps_102 kd_102 fl_X12_221 kc_12 (gv_102_4 _) ?_
      refine zr_iconst (pc' := 41) dX12_post_40 rfl ?_
      refine zr_iadd (pc' := 42) dX12_post_41 rfl ?_
      refine zr_put (pc' := 45) dX12_post_42 rfl ps_102 kd_102 fl_X12_221 kc_12 rfl nf_102_4 rfl trivial (fun M5 hM1 => ?_)
      have h := h M5 hM1
      refine zr_aload_n (pc' := 46) (i := 0) dX12_post_45 rfl rfl rfl ?_
      refine zr_get (pc' := 49) dX12_post_46 rfl ps_102 kd_102 fl_X12_221 kc_12 (gv_102_4 _) ?_
      refine zr_iconst (pc' := 50) dX12_post_49 rfl ?_
      refine zr_isub (pc' := 51) dX12_post_50 rfl ?_
      exact zr_ireturn dX12_post_51 rfl rfl trivial (Nat.le_refl _) (Nat.le_refl _) (And.intro rfl h)
    · have h := h.2.2 hc
      refine zr_iconst (pc' := 24) dX12_post_23 rfl ?_
      exact zr_ireturn dX12_post_24 rfl rfl trivial (Nat.le_refl _) (Nat.le_refl _) (And.intro rfl h)
set_option maxRecDepth 20000 in
theorem vcX12_isPost {E : zE} {M : zM} {Q : Int → zM → Prop} (l1 : Int)
    (h : ((zR l1) ∧ ((l1 < 0 → Q 0 M) ∧ (0 ≤ l1 → ((zR l1 ∧ zR (M 102 4)) ∧ (((M 102 4) ≤ l1 → Q 0 M) ∧ (l1 < (M 102 4) → Q 1 M)))))))
    : zP E mX12_isPost [.inr (.inr 102), .inl l1] M Q := by
  refine zP_of (by decide +kernel) rfl (Nat.le_of_ble_eq_true rfl) ?_
  show zA E zNN (0, 0) mX12_isPost 0 [(0, .inr (.inr 102)), (1, .inl l1)] [] M (zQ Q)
  refine zr_iload_n (pc' := 1) (i := 1) dX12_isPost_0 rfl rfl rfl ?_
  refine zr_if_lt (tgt := 16) (pc' := 4) dX12_isPost_1 rfl rfl h.1 (fun hc => ?_) (fun hc => ?_)
  · have h := h.2.1 hc
    refine zr_iconst (pc' := 17) dX12_isPost_16 rfl ?_
    exact zr_ireturn dX12_isPost_17 rfl rfl (Or.inl rfl) (Nat.le_refl _) (Nat.le_refl _) (And.intro rfl h)
  · have h := h.2.2 hc
    refine zr_iload_n (pc' := 5) (i := 1) dX12_isPost_4 rfl rfl rfl ?_
    refine zr_aload_n (pc' := 6) (i := 0) dX12_isPost_5 rfl rfl rfl ?_
    refine zr_get (pc' := 9) dX12_isPost_6 rfl ps_102 kd_102 fl_X12_221 kc_12 (gv_102_4 _) ?_
    refine zr_icmp_ge (tgt := 16) (pc' := 12) dX12_isPost_9 rfl rfl h.1.1 h.1.2 (fun hc => ?_) (fun hc => ?_)
    · have h := h.2.1 hc
      refine zr_iconst (pc' := 17) dX12_isPost_16 rfl ?_
      exact zr_ireturn dX12_isPost_17 rfl rfl (Or.inl rfl) (Nat.le_refl _) (Nat.le_refl _) (And.intro rfl h)
    · have h := h.2.2 hc
      refine zr_iconst (pc' := 13) dX12_isPost_12 rfl ?_
      refine zr_goto (pc' := 17) dX12_isPost_13 rfl ?_
      exact zr_ireturn dX12_isPost_17 rfl rfl (Or.inr rfl) (Nat.le_refl _) (Nat.le_refl _) (And.intro rfl h)
set_option maxRecDepth 20000 in
theorem vcX12_read {E : zE} {M : zM} {Q : Int → zM → Prop} (l1 l2 l3 l4 : Int)
    (h : (∀ M1, M1 = zup M 102 2 0 → (zP E mX12_isPost [.inr (.inr 102), .inl l1] M1 (fun r2 M3 => ((zR r2) ∧ ((r2 = 0 → Q (-1) M3) ∧ (¬ r2 = 0 → (zP E mX12_isIn [.inl l2, .inl 0, .inl (M3 102 3)] M3 (fun r4 M5 => ((zR r4) ∧ ((r4 = 0 → Q (-1) M5) ∧ (¬ r4 = 0 → ((zR l4) ∧ ((¬ l4 = 0 → ((zR (M5 102 6)) ∧ ((¬ (M5 102 6) = 400 → (0 ≤ M5 102 6 ∧ M5 102 6 < 400) ∧ (∀ M6, M6 = zup M5 105 ((M5 102 6).toNat) l1 → (0 ≤ M6 102 6 ∧ M6 102 6 < 400) ∧ (∀ M7, M7 = zup M6 106 ((M6 102 6).toNat) l2 → ((zR l4) ∧ ((l4 = 0 → (0 ≤ M7 102 6 ∧ M7 102 6 < 400) ∧ (∀ M8, M8 = zup M7 107 ((M7 102 6).toNat) l3 → (0 ≤ M8 102 6 ∧ M8 102 6 < 400 ∧ (l4 = 0 ∨ l4 = 1)) ∧ (∀ M9, M9 = zup M8 109 ((M8 102 6).toNat) l4 → (0 ≤ M9 102 6 ∧ M9 102 6 < 400) ∧ (∀ M10, M10 = zup M9 108 ((M9 102 6).toNat) (M9 102 3) → (∀ M11, M11 = zup M10 102 6 ((M10 102 6) + 1) → Q (M11 102 6) M11))))) ∧ (¬ l4 = 0 → (0 ≤ M7 102 6 ∧ M7 102 6 < 400) ∧ (∀ M12, M12 = zup M7 107 ((M7 102 6).toNat) 0 → (0 ≤ M12 102 6 ∧ M12 102 6 < 400 ∧ (l4 = 0 ∨ l4 = 1)) ∧ (∀ M13, M13 = zup M12 109 ((M12 102 6).toNat) l4 → (0 ≤ M13 102 6 ∧ M13 102 6 < 400) ∧ (∀ M14, M14 = zup M13 108 ((M13 102 6).toNat) (M13 102 3) → (∀ M15, M15 = zup M14 102 6 ((M14 102 6) + 1) → Q (M15 102 6) M15)))))))))) ∧ ((M5 102 6) = 400 → Q (-1) M5)))) ∧ (l4 = 0 → (zP E mX12_isIn [.inl l3, .inl (-9999), .inl 9999] M5 (fun r16 M17 => ((zR r16) ∧ ((r16 = 0 → Q (-1) M17) ∧ (¬ r16 = 0 → ((zR (M17 102 6)) ∧ ((¬ (M17 102 6) = 400 → (0 ≤ M17 102 6 ∧ M17 102 6 < 400) ∧ (∀ M18, M18 = zup M17 105 ((M17 102 6).toNat) l1 → (0 ≤ M18 102 6 ∧ M18 102 6 < 400) ∧ (∀ M19, M19 = zup M18 106 ((M18 102 6).toNat) l2 → ((zR l4) ∧ ((l4 = 0 → (0 ≤ M19 102 6 ∧ M19 102 6 < 400) ∧ (∀ M20, M20 = zup M19 107 ((M19 102 6).toNat) l3 → (0 ≤ M20 102 6 ∧ M20 102 6 < 400 ∧ (l4 = 0 ∨ l4 = 1)) ∧ (∀ M21, M21 = zup M20 109 ((M20 102 6).toNat) l4 → (0 ≤ M21 102 6 ∧ M21 102 6 < 400) ∧ (∀ M22, M22 = zup M21 108 ((M21 102 6).toNat) (M21 102 3) → (∀ M23, M23 = zup M22 102 6 ((M22 102 6) + 1) → Q (M23 102 6) M23))))) ∧ (¬ l4 = 0 → (0 ≤ M19 102 6 ∧ M19 102 6 < 400) ∧ (∀ M24, M24 = zup M19 107 ((M19 102 6).toNat) 0 → (0 ≤ M24 102 6 ∧ M24 102 6 < 400 ∧ (l4 = 0 ∨ l4 = 1)) ∧ (∀ M25, M25 = zup M24 109 ((M24 102 6).toNat) l4 → (0 ≤ M25 102 6 ∧ M25 102 6 < 400) ∧ (∀ M26, M26 = zup M25 108 ((M25 102 6).toNat) (M25 102 3) → (∀ M27, M27 = zup M26 102 6 ((M26 102 6) + 1) → Q (M27 102 6) M27)))))))))) ∧ ((M17 102 6) = 400 → Q (-1) M17)))))))))))))))))))))))
    : zP E mX12_read [.inr (.inr 102), .inl l1, .inl l2, .inl l3, .inl l4] M Q := by
  refine zP_of (by decide +kernel) rfl (Nat.le_of_ble_eq_true rfl) ?_
  show zA E zNN (0, 0) mX12_read 0 [(0, .inr (.inr 102)), (1, .inl l1), (2, .inl l2), (3, .inl l3), (4, .inl l4)] [] M (zQ Q)
  refine zr_aload_n (pc' := 1) (i := 0) dX12_read_0 rfl rfl rfl ?_
  refine zr_iconst (pc' := 2) dX12_read_1 rfl ?_
  refine zr_put (pc' := 5) dX12_read_2 rfl ps_102 kd_102 fl_X12_208 kc_12 rfl nf_102_2 rfl trivial (fun M1 hM1 => ?_)
  have h := h M1 hM1
  refine zr_aload_n (pc' := 6) (i := 0) dX12_read_5 rfl rfl rfl ?_
  refine zr_iload_n (pc' := 7) (i := 1) dX12_read_6 rfl rfl rfl ?_
  refine zn_callV (pc' := 10) (args := [.inl l1]) (st := []) (st' := fun r2 => [.inl r2]) dX12_read_7 rfl cv_X12_224 ⟨rfl, rfl, by decide, by decide⟩ rfl ps_102 kd_102 rfl rfl (Nat.le_of_ble_eq_true rfl) (fun _ => rfl) h ?_
  intro r2 M3 h
  refine zr_if_eq (tgt := 53) (pc' := 13) dX12_read_10 rfl rfl h.1 (fun hc => ?_) (fun hc => ?_)
  · have h := h.2.1 hc
    refine zr_iconst (pc' := 54) dX12_read_53 rfl ?_
    exact zr_ireturn dX12_read_54 rfl rfl trivial (Nat.le_refl _) (Nat.le_refl _) (And.intro rfl h)
  · have h := h.2.2 hc
    refine zr_iload_n (pc' := 14) (i := 2) dX12_read_13 rfl rfl rfl ?_
    refine zr_iconst (pc' := 15) dX12_read_14 rfl ?_
    refine zr_aload_n (pc' := 16) (i := 0) dX12_read_15 rfl rfl rfl ?_
    refine zr_get (pc' := 19) dX12_read_16 rfl ps_102 kd_102 fl_X12_218 kc_12 (gv_102_3 _) ?_
    refine zn_callS (pc' := 22) (args := [.inl l2, .inl 0, .inl (M3 102 3)]) (st := []) (st' := fun r4 => [.inl r4]) dX12_read_19 rfl cs_X12_214 ⟨rfl, rfl, by decide, by decide⟩ rfl rfl rfl (Nat.le_of_ble_eq_true rfl) (fun _ => rfl) h ?_
    intro r4 M5 h
    refine zr_if_eq (tgt := 53) (pc' := 25) dX12_read_22 rfl rfl h.1 (fun hc => ?_) (fun hc => ?_)
    · have h := h.2.1 hc
      refine zr_iconst (pc' := 54) dX12_read_53 rfl ?_
      exact zr_ireturn dX12_read_54 rfl rfl trivial (Nat.le_refl _) (Nat.le_refl _) (And.intro rfl h)
    · have h := h.2.2 hc
      refine zr_iload (pc' := 27) dX12_read_25 rfl rfl ?_
      refine zr_if_ne (tgt := 43) (pc' := 30) dX12_read_27 rfl rfl h.1 (fun hc => ?_) (fun hc => ?_)
      · have h := h.2.1 hc
        refine zr_aload_n (pc' := 44) (i := 0) dX12_read_43 rfl rfl rfl ?_
        refine zr_get (pc' := 47) dX12_read_44 rfl ps_102 kd_102 fl_X12_228 kc_12 (gv_102_6 _) ?_
        refine zr_sipush (pc' := 50) dX12_read_47 rfl rfl ?_
        refine zr_icmp_ne (tgt := 55) (pc' := 53) dX12_read_50 rfl rfl h.1 (zRd rfl) (fun hc => ?_) (fun hc => ?_)
        · have h := h.2.1 hc
          refine zr_aload_n (pc' := 56) (i := 0) dX12_read_55 rfl rfl rfl ?_
          refine zr_get (pc' := 59) dX12_read_56 rfl ps_102 kd_102 fl_X12_16 kc_12 (gv_102_7 _) ?_
          refine zr_aload_n (pc' := 60) (i := 0) dX12_read_59 rfl rfl rfl ?_
          refine zr_get (pc' := 63) dX12_read_60 rfl ps_102 kd_102 fl_X12_228 kc_12 (gv_102_6 _) ?_
          refine zr_iload_n (pc' := 64) (i := 1) dX12_read_63 rfl rfl rfl ?_
          refine zr_iast (pc' := 65) dX12_read_64 rfl ps_105 kd_105 (by decide) h.1.1 h.1.2 (fun M6 hM1 => ?_)
          have h := h.2 M6 hM1
          refine zr_aload_n (pc' := 66) (i := 0) dX12_read_65 rfl rfl rfl ?_
          refine zr_get (pc' := 69) dX12_read_66 rfl ps_102 kd_102 fl_X12_19 kc_12 (gv_102_8 _) ?_
          refine zr_aload_n (pc' := 70) (i := 0) dX12_read_69 rfl rfl rfl ?_
          refine zr_get (pc' := 73) dX12_read_70 rfl ps_102 kd_102 fl_X12_228 kc_12 (gv_102_6 _) ?_
          refine zr_iload_n (pc' := 74) (i := 2) dX12_read_73 rfl rfl rfl ?_
          refine zr_iast (pc' := 75) dX12_read_74 rfl ps_106 kd_106 (by decide) h.1.1 h.1.2 (fun M7 hM1 => ?_)
          have h := h.2 M7 hM1
          refine zr_aload_n (pc' := 76) (i := 0) dX12_read_75 rfl rfl rfl ?_
          refine zr_get (pc' := 79) dX12_read_76 rfl ps_102 kd_102 fl_X12_22 kc_12 (gv_102_9 _) ?_
          refine zr_aload_n (pc' := 80) (i := 0) dX12_read_79 rfl rfl rfl ?_
          refine zr_get (pc' := 83) dX12_read_80 rfl ps_102 kd_102 fl_X12_228 kc_12 (gv_102_6 _) ?_
          refine zr_iload (pc' := 85) dX12_read_83 rfl rfl ?_
          refine zr_if_eq (tgt := 92) (pc' := 88) dX12_read_85 rfl rfl h.1 (fun hc => ?_) (fun hc => ?_)
          · have h := h.2.1 hc
            refine zr_iload_n (pc' := 93) (i := 3) dX12_read_92 rfl rfl rfl ?_
            refine zr_iast (pc' := 94) dX12_read_93 rfl ps_107 kd_107 (by decide) h.1.1 h.1.2 (fun M8 hM1 => ?_)
            have h := h.2 M8 hM1
            refine zr_aload_n (pc' := 95) (i := 0) dX12_read_94 rfl rfl rfl ?_
            refine zr_get (pc' := 98) dX12_read_95 rfl ps_102 kd_102 fl_X12_28 kc_12 (gv_102_11 _) ?_
            refine zr_aload_n (pc' := 99) (i := 0) dX12_read_98 rfl rfl rfl ?_
            refine zr_get (pc' := 102) dX12_read_99 rfl ps_102 kd_102 fl_X12_228 kc_12 (gv_102_6 _) ?_
            refine zr_iload (pc' := 104) dX12_read_102 rfl rfl ?_
            refine zr_zast (pc' := 105) dX12_read_104 rfl ps_109 kd_109 (by decide) h.1.1 h.1.2.1 h.1.2.2 (fun M9 hM1 => ?_)
            have h := h.2 M9 hM1
            refine zr_aload_n (pc' := 106) (i := 0) dX12_read_105 rfl rfl rfl ?_
            refine zr_get (pc' := 109) dX12_read_106 rfl ps_102 kd_102 fl_X12_25 kc_12 (gv_102_10 _) ?_
            refine zr_aload_n (pc' := 110) (i := 0) dX12_read_109 rfl rfl rfl ?_
            refine zr_get (pc' := 113) dX12_read_110 rfl ps_102 kd_102 fl_X12_228 kc_12 (gv_102_6 _) ?_
            refine zr_aload_n (pc' := 114) (i := 0) dX12_read_113 rfl rfl rfl ?_
            refine zr_get (pc' := 117) dX12_read_114 rfl ps_102 kd_102 fl_X12_218 kc_12 (gv_102_3 _) ?_
            refine zr_iast (pc' := 118) dX12_read_117 rfl ps_108 kd_108 (by decide) h.1.1 h.1.2 (fun M10 hM1 => ?_)
            have h := h.2 M10 hM1
            refine zr_aload_n (pc' := 119) (i := 0) dX12_read_118 rfl rfl rfl ?_
            refine zr_dup (pc' := 120) dX12_read_119 rfl rfl ?_
            refine zr_get (pc' := 123) dX12_read_120 rfl ps_102 kd_102 fl_X12_228 kc_12 (gv_102_6 _) ?_
            refine zr_iconst (pc' := 124) dX12_read_123 rfl ?_
            refine zr_iadd (pc' := 125) dX12_read_124 rfl ?_
            refine zr_put (pc' := 128) dX12_read_125 rfl ps_102 kd_102 fl_X12_228 kc_12 rfl nf_102_6 rfl trivial (fun M11 hM1 => ?_)
            have h := h M11 hM1
            refine zr_aload_n (pc' := 129) (i := 0) dX12_read_128 rfl rfl rfl ?_
            refine zr_get (pc' := 132) dX12_read_129 rfl ps_102 kd_102 fl_X12_228 kc_12 (gv_102_6 _) ?_
            exact zr_ireturn dX12_read_132 rfl rfl trivial (Nat.le_refl _) (Nat.le_refl _) (And.intro rfl h)
          · have h := h.2.2 hc
            refine zr_iconst (pc' := 89) dX12_read_88 rfl ?_
            refine zr_goto (pc' := 93) dX12_read_89 rfl ?_
            refine zr_iast (pc' := 94) dX12_read_93 rfl ps_107 kd_107 (by decide) h.1.1 h.1.2 (fun M12 hM1 => ?_)
            have h := h.2 M12 hM1
            refine zr_aload_n (pc' := 95) (i := 0) dX12_read_94 rfl rfl rfl ?_
            refine zr_get (pc' := 98) dX12_read_95 rfl ps_102 kd_102 fl_X12_28 kc_12 (gv_102_11 _) ?_
            refine zr_aload_n (pc' := 99) (i := 0) dX12_read_98 rfl rfl rfl ?_
            refine zr_get (pc' := 102) dX12_read_99 rfl ps_102 kd_102 fl_X12_228 kc_12 (gv_102_6 _) ?_
            refine zr_iload (pc' := 104) dX12_read_102 rfl rfl ?_
            refine zr_zast (pc' := 105) dX12_read_104 rfl ps_109 kd_109 (by decide) h.1.1 h.1.2.1 h.1.2.2 (fun M13 hM1 => ?_)
            have h := h.2 M13 hM1
            refine zr_aload_n (pc' := 106) (i := 0) dX12_read_105 rfl rfl rfl ?_
            refine zr_get (pc' := 109) dX12_read_106 rfl ps_102 kd_102 fl_X12_25 kc_12 (gv_102_10 _) ?_
            refine zr_aload_n (pc' := 110) (i := 0) dX12_read_109 rfl rfl rfl ?_
            refine zr_get (pc' := 113) dX12_read_110 rfl ps_102 kd_102 fl_X12_228 kc_12 (gv_102_6 _) ?_
            refine zr_aload_n (pc' := 114) (i := 0) dX12_read_113 rfl rfl rfl ?_
            refine zr_get (pc' := 117) dX12_read_114 rfl ps_102 kd_102 fl_X12_218 kc_12 (gv_102_3 _) ?_
            refine zr_iast (pc' := 118) dX12_read_117 rfl ps_108 kd_108 (by decide) h.1.1 h.1.2 (fun M14 hM1 => ?_)
            have h := h.2 M14 hM1
            refine zr_aload_n (pc' := 119) (i := 0) dX12_read_118 rfl rfl rfl ?_
            refine zr_dup (pc' := 120) dX12_read_119 rfl rfl ?_
            refine zr_get (pc' := 123) dX12_read_120 rfl ps_102 kd_102 fl_X12_228 kc_12 (gv_102_6 _) ?_
            refine zr_iconst (pc' := 124) dX12_read_123 rfl ?_
            refine zr_iadd (pc' := 125) dX12_read_124 rfl ?_
            refine zr_put (pc' := 128) dX12_read_125 rfl ps_102 kd_102 fl_X12_228 kc_12 rfl nf_102_6 rfl trivial (fun M15 hM1 => ?_)
            have h := h M15 hM1
            refine zr_aload_n (pc' := 129) (i := 0) dX12_read_128 rfl rfl rfl ?_
            refine zr_get (pc' := 132) dX12_read_129 rfl ps_102 kd_102 fl_X12_228 kc_12 (gv_102_6 _) ?_
            exact zr_ireturn dX12_read_132 rfl rfl trivial (Nat.le_refl _) (Nat.le_refl _) (And.intro rfl h)
        · have h := h.2.2 hc
          refine zr_iconst (pc' := 54) dX12_read_53 rfl ?_
          exact zr_ireturn dX12_read_54 rfl rfl trivial (Nat.le_refl _) (Nat.le_refl _) (And.intro rfl h)
      · have h := h.2.2 hc
        refine zr_iload_n (pc' := 31) (i := 3) dX12_read_30 rfl rfl rfl ?_
        refine zr_sipush (pc' := 34) dX12_read_31 rfl rfl ?_
        refine zr_sipush (pc' := 37) dX12_read_34 rfl rfl ?_
        refine zn_callS (pc' := 40) (args := [.inl l3, .inl (-9999), .inl 9999]) (st := []) (st' := fun r16 => [.inl r16]) dX12_read_37 rfl cs_X12_214 ⟨rfl, rfl, by decide, by decide⟩ rfl rfl rfl (Nat.le_of_ble_eq_true rfl) (fun _ => rfl) h ?_
        intro r16 M17 h
        refine zr_if_eq (tgt := 53) (pc' := 43) dX12_read_40 rfl rfl h.1 (fun hc => ?_) (fun hc => ?_)
        · have h := h.2.1 hc
          refine zr_iconst (pc' := 54) dX12_read_53 rfl ?_
          exact zr_ireturn dX12_read_54 rfl rfl trivial (Nat.le_refl _) (Nat.le_refl _) (And.intro rfl h)
        · have h := h.2.2 hc
          refine zr_aload_n (pc' := 44) (i := 0) dX12_read_43 rfl rfl rfl ?_
          refine zr_get (pc' := 47) dX12_read_44 rfl ps_102 kd_102 fl_X12_228 kc_12 (gv_102_6 _) ?_
          refine zr_sipush (pc' := 50) dX12_read_47 rfl rfl ?_
          refine zr_icmp_ne (tgt := 55) (pc' := 53) dX12_read_50 rfl rfl h.1 (zRd rfl) (fun hc => ?_) (fun hc => ?_)
          · have h := h.2.1 hc
            refine zr_aload_n (pc' := 56) (i := 0) dX12_read_55 rfl rfl rfl ?_
            refine zr_get (pc' := 59) dX12_read_56 rfl ps_102 kd_102 fl_X12_16 kc_12 (gv_102_7 _) ?_
            refine zr_aload_n (pc' := 60) (i := 0) dX12_read_59 rfl rfl rfl ?_
            refine zr_get (pc' := 63) dX12_read_60 rfl ps_102 kd_102 fl_X12_228 kc_12 (gv_102_6 _) ?_
            refine zr_iload_n (pc' := 64) (i := 1) dX12_read_63 rfl rfl rfl ?_
            refine zr_iast (pc' := 65) dX12_read_64 rfl ps_105 kd_105 (by decide) h.1.1 h.1.2 (fun M18 hM1 => ?_)
            have h := h.2 M18 hM1
            refine zr_aload_n (pc' := 66) (i := 0) dX12_read_65 rfl rfl rfl ?_
            refine zr_get (pc' := 69) dX12_read_66 rfl ps_102 kd_102 fl_X12_19 kc_12 (gv_102_8 _) ?_
            refine zr_aload_n (pc' := 70) (i := 0) dX12_read_69 rfl rfl rfl ?_
            refine zr_get (pc' := 73) dX12_read_70 rfl ps_102 kd_102 fl_X12_228 kc_12 (gv_102_6 _) ?_
            refine zr_iload_n (pc' := 74) (i := 2) dX12_read_73 rfl rfl rfl ?_
            refine zr_iast (pc' := 75) dX12_read_74 rfl ps_106 kd_106 (by decide) h.1.1 h.1.2 (fun M19 hM1 => ?_)
            have h := h.2 M19 hM1
            refine zr_aload_n (pc' := 76) (i := 0) dX12_read_75 rfl rfl rfl ?_
            refine zr_get (pc' := 79) dX12_read_76 rfl ps_102 kd_102 fl_X12_22 kc_12 (gv_102_9 _) ?_
            refine zr_aload_n (pc' := 80) (i := 0) dX12_read_79 rfl rfl rfl ?_
            refine zr_get (pc' := 83) dX12_read_80 rfl ps_102 kd_102 fl_X12_228 kc_12 (gv_102_6 _) ?_
            refine zr_iload (pc' := 85) dX12_read_83 rfl rfl ?_
            refine zr_if_eq (tgt := 92) (pc' := 88) dX12_read_85 rfl rfl h.1 (fun hc => ?_) (fun hc => ?_)
            · have h := h.2.1 hc
              refine zr_iload_n (pc' := 93) (i := 3) dX12_read_92 rfl rfl rfl ?_
              refine zr_iast (pc' := 94) dX12_read_93 rfl ps_107 kd_107 (by decide) h.1.1 h.1.2 (fun M20 hM1 => ?_)
              have h := h.2 M20 hM1
              refine zr_aload_n (pc' := 95) (i := 0) dX12_read_94 rfl rfl rfl ?_
              refine zr_get (pc' := 98) dX12_read_95 rfl ps_102 kd_102 fl_X12_28 kc_12 (gv_102_11 _) ?_
              refine zr_aload_n (pc' := 99) (i := 0) dX12_read_98 rfl rfl rfl ?_
              refine zr_get (pc' := 102) dX12_read_99 rfl ps_102 kd_102 fl_X12_228 kc_12 (gv_102_6 _) ?_
              refine zr_iload (pc' := 104) dX12_read_102 rfl rfl ?_
              refine zr_zast (pc' := 105) dX12_read_104 rfl ps_109 kd_109 (by decide) h.1.1 h.1.2.1 h.1.2.2 (fun M21 hM1 => ?_)
              have h := h.2 M21 hM1
              refine zr_aload_n (pc' := 106) (i := 0) dX12_read_105 rfl rfl rfl ?_
              refine zr_get (pc' := 109) dX12_read_106 rfl ps_102 kd_102 fl_X12_25 kc_12 (gv_102_10 _) ?_
              refine zr_aload_n (pc' := 110) (i := 0) dX12_read_109 rfl rfl rfl ?_
              refine zr_get (pc' := 113) dX12_read_110 rfl ps_102 kd_102 fl_X12_228 kc_12 (gv_102_6 _) ?_
              refine zr_aload_n (pc' := 114) (i := 0) dX12_read_113 rfl rfl rfl ?_
              refine zr_get (pc' := 117) dX12_read_114 rfl ps_102 kd_102 fl_X12_218 kc_12 (gv_102_3 _) ?_
              refine zr_iast (pc' := 118) dX12_read_117 rfl ps_108 kd_108 (by decide) h.1.1 h.1.2 (fun M22 hM1 => ?_)
              have h := h.2 M22 hM1
              refine zr_aload_n (pc' := 119) (i := 0) dX12_read_118 rfl rfl rfl ?_
              refine zr_dup (pc' := 120) dX12_read_119 rfl rfl ?_
              refine zr_get (pc' := 123) dX12_read_120 rfl ps_102 kd_102 fl_X12_228 kc_12 (gv_102_6 _) ?_
              refine zr_iconst (pc' := 124) dX12_read_123 rfl ?_
              refine zr_iadd (pc' := 125) dX12_read_124 rfl ?_
              refine zr_put (pc' := 128) dX12_read_125 rfl ps_102 kd_102 fl_X12_228 kc_12 rfl nf_102_6 rfl trivial (fun M23 hM1 => ?_)
              have h := h M23 hM1
              refine zr_aload_n (pc' := 129) (i := 0) dX12_read_128 rfl rfl rfl ?_
              refine zr_get (pc' := 132) dX12_read_129 rfl ps_102 kd_102 fl_X12_228 kc_12 (gv_102_6 _) ?_
              exact zr_ireturn dX12_read_132 rfl rfl trivial (Nat.le_refl _) (Nat.le_refl _) (And.intro rfl h)
            · have h := h.2.2 hc
              refine zr_iconst (pc' := 89) dX12_read_88 rfl ?_
              refine zr_goto (pc' := 93) dX12_read_89 rfl ?_
              refine zr_iast (pc' := 94) dX12_read_93 rfl ps_107 kd_107 (by decide) h.1.1 h.1.2 (fun M24 hM1 => ?_)
              have h := h.2 M24 hM1
              refine zr_aload_n (pc' := 95) (i := 0) dX12_read_94 rfl rfl rfl ?_
              refine zr_get (pc' := 98) dX12_read_95 rfl ps_102 kd_102 fl_X12_28 kc_12 (gv_102_11 _) ?_
              refine zr_aload_n (pc' := 99) (i := 0) dX12_read_98 rfl rfl rfl ?_
              refine zr_get (pc' := 102) dX12_read_99 rfl ps_102 kd_102 fl_X12_228 kc_12 (gv_102_6 _) ?_
              refine zr_iload (pc' := 104) dX12_read_102 rfl rfl ?_
              refine zr_zast (pc' := 105) dX12_read_104 rfl ps_109 kd_109 (by decide) h.1.1 h.1.2.1 h.1.2.2 (fun M25 hM1 => ?_)
              have h := h.2 M25 hM1
              refine zr_aload_n (pc' := 106) (i := 0) dX12_read_105 rfl rfl rfl ?_
              refine zr_get (pc' := 109) dX12_read_106 rfl ps_102 kd_102 fl_X12_25 kc_12 (gv_102_10 _) ?_
              refine zr_aload_n (pc' := 110) (i := 0) dX12_read_109 rfl rfl rfl ?_
              refine zr_get (pc' := 113) dX12_read_110 rfl ps_102 kd_102 fl_X12_228 kc_12 (gv_102_6 _) ?_
              refine zr_aload_n (pc' := 114) (i := 0) dX12_read_113 rfl rfl rfl ?_
              refine zr_get (pc' := 117) dX12_read_114 rfl ps_102 kd_102 fl_X12_218 kc_12 (gv_102_3 _) ?_
              refine zr_iast (pc' := 118) dX12_read_117 rfl ps_108 kd_108 (by decide) h.1.1 h.1.2 (fun M26 hM1 => ?_)
              have h := h.2 M26 hM1
              refine zr_aload_n (pc' := 119) (i := 0) dX12_read_118 rfl rfl rfl ?_
              refine zr_dup (pc' := 120) dX12_read_119 rfl rfl ?_
              refine zr_get (pc' := 123) dX12_read_120 rfl ps_102 kd_102 fl_X12_228 kc_12 (gv_102_6 _) ?_
              refine zr_iconst (pc' := 124) dX12_read_123 rfl ?_
              refine zr_iadd (pc' := 125) dX12_read_124 rfl ?_
              refine zr_put (pc' := 128) dX12_read_125 rfl ps_102 kd_102 fl_X12_228 kc_12 rfl nf_102_6 rfl trivial (fun M27 hM1 => ?_)
              have h := h M27 hM1
              refine zr_aload_n (pc' := 129) (i := 0) dX12_read_128 rfl rfl rfl ?_
              refine zr_get (pc' := 132) dX12_read_129 rfl ps_102 kd_102 fl_X12_228 kc_12 (gv_102_6 _) ?_
              exact zr_ireturn dX12_read_132 rfl rfl trivial (Nat.le_refl _) (Nat.le_refl _) (And.intro rfl h)
          · have h := h.2.2 hc
            refine zr_iconst (pc' := 54) dX12_read_53 rfl ?_
            exact zr_ireturn dX12_read_54 rfl rfl trivial (Nat.le_refl _) (Nat.le_refl _) (And.intro rfl h)
set_option maxRecDepth 20000 in
theorem vcX12_know {E : zE} {M : zM} {Q : Int → zM → Prop} (l1 : Int) (I2 : Nat → Int → Int → zM → Prop) (I24 : Nat → Int → Int → zM → Prop)
    (h : ∃ n', I2 n' l1 0 M)
    (h2 : ∀ (n : Nat) (l1 l2 : Int) (M : zM), I2 n l1 l2 M → ((zR l2) ∧ ((800 ≤ l2 → ∃ n', n' < n ∧ I24 n' l1 0 M) ∧ (l2 < 800 → (0 ≤ l2 ∧ l2 < 800) ∧ (∀ M1, M1 = zup M 110 l2.toNat 0 → ∃ n', n' < n ∧ I2 n' l1 (l2 + 1) M1)))))
    (h24 : ∀ (n : Nat) (l1 l2 : Int) (M : zM), I24 n l1 l2 M → ((zR l2 ∧ zR (M 102 6)) ∧ (((M 102 6) ≤ l2 → Q 0 M) ∧ (l2 < (M 102 6) → (0 ≤ l2 ∧ l2 < 400) ∧ ((zR (M 108 l2.toNat) ∧ zR l1) ∧ (((M 108 l2.toNat) ≤ l1 → (0 ≤ l2 ∧ l2 < 400) ∧ (0 ≤ l2 ∧ l2 < 400) ∧ (0 ≤ l2 ∧ l2 < 400) ∧ ((zR (M 109 l2.toNat)) ∧ ((¬ (M 109 l2.toNat) = 0 → (0 ≤ (100 * (M 105 l2.toNat)) + (M 106 l2.toNat) ∧ (100 * (M 105 l2.toNat)) + (M 106 l2.toNat) < 800) ∧ (∀ M2, M2 = zup M 110 (((100 * (M 105 l2.toNat)) + (M 106 l2.toNat)).toNat) 0 → (0 ≤ l2 ∧ l2 < 400) ∧ (0 ≤ (100 * (M 105 l2.toNat)) + (M 106 l2.toNat) ∧ (100 * (M 105 l2.toNat)) + (M 106 l2.toNat) < 800) ∧ (∀ M3, M3 = zup M2 111 (((100 * (M 105 l2.toNat)) + (M 106 l2.toNat)).toNat) (M2 107 l2.toNat) → ∃ n', n' < n ∧ I24 n' l1 (l2 + 1) M3))) ∧ ((M 109 l2.toNat) = 0 → (0 ≤ (100 * (M 105 l2.toNat)) + (M 106 l2.toNat) ∧ (100 * (M 105 l2.toNat)) + (M 106 l2.toNat) < 800) ∧ (∀ M4, M4 = zup M 110 (((100 * (M 105 l2.toNat)) + (M 106 l2.toNat)).toNat) 1 → (0 ≤ l2 ∧ l2 < 400) ∧ (0 ≤ (100 * (M 105 l2.toNat)) + (M 106 l2.toNat) ∧ (100 * (M 105 l2.toNat)) + (M 106 l2.toNat) < 800) ∧ (∀ M5, M5 = zup M4 111 (((100 * (M 105 l2.toNat)) + (M 106 l2.toNat)).toNat) (M4 107 l2.toNat) → ∃ n', n' < n ∧ I24 n' l1 (l2 + 1) M5)))))) ∧ (l1 < (M 108 l2.toNat) → ∃ n', n' < n ∧ I24 n' l1 (l2 + 1) M)))))))
    : zP E mX12_know [.inr (.inr 102), .inl l1] M Q := by
  have key : ∀ n : Nat, (∀ (l1 l2 : Int) (M : zM), I2 n l1 l2 M → zA E zNN (0, 0) mX12_know 2 [(0, .inr (.inr 102)), (1, .inl l1), (2, .inl l2)] [] M (zQ Q)) ∧ (∀ (l1 l2 : Int) (M : zM), I24 n l1 l2 M → zA E zNN (0, 0) mX12_know 24 [(0, .inr (.inr 102)), (1, .inl l1), (2, .inl l2)] [] M (zQ Q)) := by
    intro n
    induction n using Nat.strongRecOn with
    | ind n ih =>
      refine ⟨?_, ?_⟩
      · intro l1 l2 M h
        have h := h2 n l1 l2 M h
        refine zr_iload_n (pc' := 3) (i := 2) dX12_know_2 rfl rfl rfl ?_
        refine zr_sipush (pc' := 6) dX12_know_3 rfl rfl ?_
        refine zr_icmp_ge (tgt := 22) (pc' := 9) dX12_know_6 rfl rfl h.1 (zRd rfl) (fun hc => ?_) (fun hc => ?_)
        · have h := h.2.1 hc
          refine zr_iconst (pc' := 23) dX12_know_22 rfl ?_
          refine zr_istore_n (pc' := 24) (i := 2) (al' := [(2, .inl 0), (0, .inr (.inr 102)), (1, .inl l1)]) dX12_know_23 rfl rfl (by decide) rfl ?_
          obtain ⟨n', hn, h⟩ := h
          exact zn_al ((ih n' hn).2 _ _ _ h) ⟨rfl, rfl, rfl, trivial⟩
        · have h := h.2.2 hc
          refine zr_aload_n (pc' := 10) (i := 0) dX12_know_9 rfl rfl rfl ?_
          refine zr_get (pc' := 13) dX12_know_10 rfl ps_102 kd_102 fl_X12_32 kc_12 (gv_102_12 _) ?_
          refine zr_iload_n (pc' := 14) (i := 2) dX12_know_13 rfl rfl rfl ?_
          refine zr_iconst (pc' := 15) dX12_know_14 rfl ?_
          refine zr_zast (pc' := 16) dX12_know_15 rfl ps_110 kd_110 (by decide) h.1.1 h.1.2 (Or.inl rfl) (fun M1 hM1 => ?_)
          have h := h.2 M1 hM1
          refine zr_iinc (pc' := 19) (al' := [(2, .inl (l2 + 1)), (0, .inr (.inr 102)), (1, .inl l1)]) dX12_know_16 rfl rfl (by decide) rfl ?_
          refine zr_goto (pc' := 2) dX12_know_19 rfl ?_
          obtain ⟨n', hn, h⟩ := h
          exact zn_al ((ih n' hn).1 _ _ _ h) ⟨rfl, rfl, rfl, trivial⟩
      · intro l1 l2 M h
        have h := h24 n l1 l2 M h
        refine zr_iload_n (pc' := 25) (i := 2) dX12_know_24 rfl rfl rfl ?_
        refine zr_aload_n (pc' := 26) (i := 0) dX12_know_25 rfl rfl rfl ?_
        refine zr_get (pc' := 29) dX12_know_26 rfl ps_102 kd_102 fl_X12_228 kc_12 (gv_102_6 _) ?_
        refine zr_icmp_ge (tgt := 100) (pc' := 32) dX12_know_29 rfl rfl h.1.1 h.1.2 (fun hc => ?_) (fun hc => ?_)
        · have h := h.2.1 hc
          exact zr_return (x := 0) dX12_know_100 rfl (Nat.le_refl _) (Nat.le_refl _) (And.intro rfl h)
        · have h := h.2.2 hc
          refine zr_aload_n (pc' := 33) (i := 0) dX12_know_32 rfl rfl rfl ?_
          refine zr_get (pc' := 36) dX12_know_33 rfl ps_102 kd_102 fl_X12_25 kc_12 (gv_102_10 _) ?_
          refine zr_iload_n (pc' := 37) (i := 2) dX12_know_36 rfl rfl rfl ?_
          refine zr_iald (pc' := 38) dX12_know_37 rfl ps_108 kd_108 (by decide) h.1.1 h.1.2 ?_
          have h := h.2
          refine zr_iload_n (pc' := 39) (i := 1) dX12_know_38 rfl rfl rfl ?_
          refine zr_icmp_le (tgt := 45) (pc' := 42) dX12_know_39 rfl rfl h.1.1 h.1.2 (fun hc => ?_) (fun hc => ?_)
          · have h := h.2.1 hc
            refine zr_bipush (pc' := 47) dX12_know_45 rfl rfl ?_
            refine zr_aload_n (pc' := 48) (i := 0) dX12_know_47 rfl rfl rfl ?_
            refine zr_get (pc' := 51) dX12_know_48 rfl ps_102 kd_102 fl_X12_16 kc_12 (gv_102_7 _) ?_
            refine zr_iload_n (pc' := 52) (i := 2) dX12_know_51 rfl rfl rfl ?_
            refine zr_iald (pc' := 53) dX12_know_52 rfl ps_105 kd_105 (by decide) h.1.1 h.1.2 ?_
            have h := h.2
            refine zr_imul (pc' := 54) dX12_know_53 rfl ?_
            refine zr_aload_n (pc' := 55) (i := 0) dX12_know_54 rfl rfl rfl ?_
            refine zr_get (pc' := 58) dX12_know_55 rfl ps_102 kd_102 fl_X12_19 kc_12 (gv_102_8 _) ?_
            refine zr_iload_n (pc' := 59) (i := 2) dX12_know_58 rfl rfl rfl ?_
            refine zr_iald (pc' := 60) dX12_know_59 rfl ps_106 kd_106 (by decide) h.1.1 h.1.2 ?_
            have h := h.2
            refine zr_iadd (pc' := 61) dX12_know_60 rfl ?_
            refine zr_istore_n (pc' := 62) (i := 3) (al' := [(3, .inl ((100 * (M 105 l2.toNat)) + (M 106 l2.toNat))), (0, .inr (.inr 102)), (1, .inl l1), (2, .inl l2)]) dX12_know_61 rfl rfl (by decide) rfl ?_
            refine zr_aload_n (pc' := 63) (i := 0) dX12_know_62 rfl rfl rfl ?_
            refine zr_get (pc' := 66) dX12_know_63 rfl ps_102 kd_102 fl_X12_32 kc_12 (gv_102_12 _) ?_
            refine zr_iload_n (pc' := 67) (i := 3) dX12_know_66 rfl rfl rfl ?_
            refine zr_aload_n (pc' := 68) (i := 0) dX12_know_67 rfl rfl rfl ?_
            refine zr_get (pc' := 71) dX12_know_68 rfl ps_102 kd_102 fl_X12_28 kc_12 (gv_102_11 _) ?_
            refine zr_iload_n (pc' := 72) (i := 2) dX12_know_71 rfl rfl rfl ?_
            refine zr_zald (pc' := 73) dX12_know_72 rfl ps_109 kd_109 (by decide) h.1.1 h.1.2 ?_
            have h := h.2
            refine zr_if_ne (tgt := 80) (pc' := 76) dX12_know_73 rfl rfl h.1 (fun hc => ?_) (fun hc => ?_)
            · have h := h.2.1 hc
              refine zr_iconst (pc' := 81) dX12_know_80 rfl ?_
              refine zr_zast (pc' := 82) dX12_know_81 rfl ps_110 kd_110 (by decide) h.1.1 h.1.2 (Or.inl rfl) (fun M2 hM1 => ?_)
              have h := h.2 M2 hM1
              refine zr_aload_n (pc' := 83) (i := 0) dX12_know_82 rfl rfl rfl ?_
              refine zr_get (pc' := 86) dX12_know_83 rfl ps_102 kd_102 fl_X12_35 kc_12 (gv_102_13 _) ?_
              refine zr_iload_n (pc' := 87) (i := 3) dX12_know_86 rfl rfl rfl ?_
              refine zr_aload_n (pc' := 88) (i := 0) dX12_know_87 rfl rfl rfl ?_
              refine zr_get (pc' := 91) dX12_know_88 rfl ps_102 kd_102 fl_X12_22 kc_12 (gv_102_9 _) ?_
              refine zr_iload_n (pc' := 92) (i := 2) dX12_know_91 rfl rfl rfl ?_
              refine zr_iald (pc' := 93) dX12_know_92 rfl ps_107 kd_107 (by decide) h.1.1 h.1.2 ?_
              have h := h.2
              refine zr_iast (pc' := 94) dX12_know_93 rfl ps_111 kd_111 (by decide) h.1.1 h.1.2 (fun M3 hM1 => ?_)
              have h := h.2 M3 hM1
              refine zr_iinc (pc' := 97) (al' := [(2, .inl (l2 + 1)), (3, .inl ((100 * (M 105 l2.toNat)) + (M 106 l2.toNat))), (0, .inr (.inr 102)), (1, .inl l1)]) dX12_know_94 rfl rfl (by decide) rfl ?_
              refine zr_goto (pc' := 24) dX12_know_97 rfl ?_
              obtain ⟨n', hn, h⟩ := h
              exact zn_al ((ih n' hn).2 _ _ _ h) ⟨rfl, rfl, rfl, trivial⟩
            · have h := h.2.2 hc
              refine zr_iconst (pc' := 77) dX12_know_76 rfl ?_
              refine zr_goto (pc' := 81) dX12_know_77 rfl ?_
              refine zr_zast (pc' := 82) dX12_know_81 rfl ps_110 kd_110 (by decide) h.1.1 h.1.2 (Or.inr rfl) (fun M4 hM1 => ?_)
              have h := h.2 M4 hM1
              refine zr_aload_n (pc' := 83) (i := 0) dX12_know_82 rfl rfl rfl ?_
              refine zr_get (pc' := 86) dX12_know_83 rfl ps_102 kd_102 fl_X12_35 kc_12 (gv_102_13 _) ?_
              refine zr_iload_n (pc' := 87) (i := 3) dX12_know_86 rfl rfl rfl ?_
              refine zr_aload_n (pc' := 88) (i := 0) dX12_know_87 rfl rfl rfl ?_
              refine zr_get (pc' := 91) dX12_know_88 rfl ps_102 kd_102 fl_X12_22 kc_12 (gv_102_9 _) ?_
              refine zr_iload_n (pc' := 92) (i := 2) dX12_know_91 rfl rfl rfl ?_
              refine zr_iald (pc' := 93) dX12_know_92 rfl ps_107 kd_107 (by decide) h.1.1 h.1.2 ?_
              have h := h.2
              refine zr_iast (pc' := 94) dX12_know_93 rfl ps_111 kd_111 (by decide) h.1.1 h.1.2 (fun M5 hM1 => ?_)
              have h := h.2 M5 hM1
              refine zr_iinc (pc' := 97) (al' := [(2, .inl (l2 + 1)), (3, .inl ((100 * (M 105 l2.toNat)) + (M 106 l2.toNat))), (0, .inr (.inr 102)), (1, .inl l1)]) dX12_know_94 rfl rfl (by decide) rfl ?_
              refine zr_goto (pc' := 24) dX12_know_97 rfl ?_
              obtain ⟨n', hn, h⟩ := h
              exact zn_al ((ih n' hn).2 _ _ _ h) ⟨rfl, rfl, rfl, trivial⟩
          · have h := h.2.2 hc
            refine zr_goto (pc' := 94) dX12_know_42 rfl ?_
            refine zr_iinc (pc' := 97) (al' := [(2, .inl (l2 + 1)), (0, .inr (.inr 102)), (1, .inl l1)]) dX12_know_94 rfl rfl (by decide) rfl ?_
            refine zr_goto (pc' := 24) dX12_know_97 rfl ?_
            obtain ⟨n', hn, h⟩ := h
            exact zn_al ((ih n' hn).2 _ _ _ h) ⟨rfl, rfl, rfl, trivial⟩
  refine zP_of (by decide +kernel) rfl (Nat.le_of_ble_eq_true rfl) ?_
  show zA E zNN (0, 0) mX12_know 0 [(0, .inr (.inr 102)), (1, .inl l1)] [] M (zQ Q)
  refine zr_iconst (pc' := 1) dX12_know_0 rfl ?_
  refine zr_istore_n (pc' := 2) (i := 2) (al' := [(2, .inl 0), (0, .inr (.inr 102)), (1, .inl l1)]) dX12_know_1 rfl rfl (by decide) rfl ?_
  obtain ⟨n', h⟩ := h
  exact zn_al ((key n').1 _ _ _ h) ⟨rfl, rfl, rfl, trivial⟩
set_option maxRecDepth 20000 in
theorem vcX12_reading {E : zE} {M : zM} {Q : Int → zM → Prop} (l1 l2 l3 : Int)
    (h : (∀ M1, M1 = zup M 102 2 0 → (zP E mX12_isPost [.inr (.inr 102), .inl l1] M1 (fun r2 M3 => ((zR r2) ∧ ((r2 = 0 → Q (-20000) M3) ∧ (¬ r2 = 0 → (zP E mX12_isHour [.inl l2] M3 (fun r4 M5 => ((zR r4) ∧ ((r4 = 0 → Q (-20000) M5) ∧ (¬ r4 = 0 → (zP E mX12_isHour [.inl l3] M5 (fun r6 M7 => ((zR r6) ∧ ((¬ r6 = 0 → (zP E mX12_know [.inr (.inr 102), .inl l3] M7 (fun r8 M9 => (0 ≤ (100 * l1) + l2 ∧ (100 * l1) + l2 < 800) ∧ ((zR (M9 110 (((100 * l1) + l2).toNat))) ∧ (((M9 110 (((100 * l1) + l2).toNat)) = 0 → Q (-10000) M9) ∧ (¬ (M9 110 (((100 * l1) + l2).toNat)) = 0 → (0 ≤ (100 * l1) + l2 ∧ (100 * l1) + l2 < 800) ∧ Q (M9 111 (((100 * l1) + l2).toNat)) M9)))))) ∧ (r6 = 0 → Q (-20000) M7)))))))))))))))))
    : zP E mX12_reading [.inr (.inr 102), .inl l1, .inl l2, .inl l3] M Q := by
  refine zP_of (by decide +kernel) rfl (Nat.le_of_ble_eq_true rfl) ?_
  show zA E zNN (0, 0) mX12_reading 0 [(0, .inr (.inr 102)), (1, .inl l1), (2, .inl l2), (3, .inl l3)] [] M (zQ Q)
  refine zr_aload_n (pc' := 1) (i := 0) dX12_reading_0 rfl rfl rfl ?_
  refine zr_iconst (pc' := 2) dX12_reading_1 rfl ?_
  refine zr_put (pc' := 5) dX12_reading_2 rfl ps_102 kd_102 fl_X12_208 kc_12 rfl nf_102_2 rfl trivial (fun M1 hM1 => ?_)
  have h := h M1 hM1
  refine zr_aload_n (pc' := 6) (i := 0) dX12_reading_5 rfl rfl rfl ?_
  refine zr_iload_n (pc' := 7) (i := 1) dX12_reading_6 rfl rfl rfl ?_
  refine zn_callV (pc' := 10) (args := [.inl l1]) (st := []) (st' := fun r2 => [.inl r2]) dX12_reading_7 rfl cv_X12_224 ⟨rfl, rfl, by decide, by decide⟩ rfl ps_102 kd_102 rfl rfl (Nat.le_of_ble_eq_true rfl) (fun _ => rfl) h ?_
  intro r2 M3 h
  refine zr_if_eq (tgt := 27) (pc' := 13) dX12_reading_10 rfl rfl h.1 (fun hc => ?_) (fun hc => ?_)
  · have h := h.2.1 hc
    refine zr_sipush (pc' := 30) dX12_reading_27 rfl rfl ?_
    exact zr_ireturn dX12_reading_30 rfl rfl trivial (Nat.le_refl _) (Nat.le_refl _) (And.intro rfl h)
  · have h := h.2.2 hc
    refine zr_iload_n (pc' := 14) (i := 2) dX12_reading_13 rfl rfl rfl ?_
    refine zn_callS (pc' := 17) (args := [.inl l2]) (st := []) (st' := fun r4 => [.inl r4]) dX12_reading_14 rfl cs_X12_231 ⟨rfl, rfl, by decide, by decide⟩ rfl rfl rfl (Nat.le_of_ble_eq_true rfl) (fun _ => rfl) h ?_
    intro r4 M5 h
    refine zr_if_eq (tgt := 27) (pc' := 20) dX12_reading_17 rfl rfl h.1 (fun hc => ?_) (fun hc => ?_)
    · have h := h.2.1 hc
      refine zr_sipush (pc' := 30) dX12_reading_27 rfl rfl ?_
      exact zr_ireturn dX12_reading_30 rfl rfl trivial (Nat.le_refl _) (Nat.le_refl _) (And.intro rfl h)
    · have h := h.2.2 hc
      refine zr_iload_n (pc' := 21) (i := 3) dX12_reading_20 rfl rfl rfl ?_
      refine zn_callS (pc' := 24) (args := [.inl l3]) (st := []) (st' := fun r6 => [.inl r6]) dX12_reading_21 rfl cs_X12_231 ⟨rfl, rfl, by decide, by decide⟩ rfl rfl rfl (Nat.le_of_ble_eq_true rfl) (fun _ => rfl) h ?_
      intro r6 M7 h
      refine zr_if_ne (tgt := 31) (pc' := 27) dX12_reading_24 rfl rfl h.1 (fun hc => ?_) (fun hc => ?_)
      · have h := h.2.1 hc
        refine zr_aload_n (pc' := 32) (i := 0) dX12_reading_31 rfl rfl rfl ?_
        refine zr_iload_n (pc' := 33) (i := 3) dX12_reading_32 rfl rfl rfl ?_
        refine zn_callV (pc' := 36) (args := [.inl l3]) (st := []) (st' := fun _ => []) dX12_reading_33 rfl cv_X12_234 ⟨rfl, rfl, by decide, by decide⟩ rfl ps_102 kd_102 rfl rfl (Nat.le_of_ble_eq_true rfl) (fun _ => rfl) h ?_
        intro r8 M9 h
        refine zr_aload_n (pc' := 37) (i := 0) dX12_reading_36 rfl rfl rfl ?_
        refine zr_get (pc' := 40) dX12_reading_37 rfl ps_102 kd_102 fl_X12_32 kc_12 (gv_102_12 _) ?_
        refine zr_bipush (pc' := 42) dX12_reading_40 rfl rfl ?_
        refine zr_iload_n (pc' := 43) (i := 1) dX12_reading_42 rfl rfl rfl ?_
        refine zr_imul (pc' := 44) dX12_reading_43 rfl ?_
        refine zr_iload_n (pc' := 45) (i := 2) dX12_reading_44 rfl rfl rfl ?_
        refine zr_iadd (pc' := 46) dX12_reading_45 rfl ?_
        refine zr_zald (pc' := 47) dX12_reading_46 rfl ps_110 kd_110 (by decide) h.1.1 h.1.2 ?_
        have h := h.2
        refine zr_if_eq (tgt := 64) (pc' := 50) dX12_reading_47 rfl rfl h.1 (fun hc => ?_) (fun hc => ?_)
        · have h := h.2.1 hc
          refine zr_sipush (pc' := 67) dX12_reading_64 rfl rfl ?_
          exact zr_ireturn dX12_reading_67 rfl rfl trivial (Nat.le_refl _) (Nat.le_refl _) (And.intro rfl h)
        · have h := h.2.2 hc
          refine zr_aload_n (pc' := 51) (i := 0) dX12_reading_50 rfl rfl rfl ?_
          refine zr_get (pc' := 54) dX12_reading_51 rfl ps_102 kd_102 fl_X12_35 kc_12 (gv_102_13 _) ?_
          refine zr_bipush (pc' := 56) dX12_reading_54 rfl rfl ?_
          refine zr_iload_n (pc' := 57) (i := 1) dX12_reading_56 rfl rfl rfl ?_
          refine zr_imul (pc' := 58) dX12_reading_57 rfl ?_
          refine zr_iload_n (pc' := 59) (i := 2) dX12_reading_58 rfl rfl rfl ?_
          refine zr_iadd (pc' := 60) dX12_reading_59 rfl ?_
          refine zr_iald (pc' := 61) dX12_reading_60 rfl ps_111 kd_111 (by decide) h.1.1 h.1.2 ?_
          have h := h.2
          refine zr_goto (pc' := 67) dX12_reading_61 rfl ?_
          exact zr_ireturn dX12_reading_67 rfl rfl trivial (Nat.le_refl _) (Nat.le_refl _) (And.intro rfl h)
      · have h := h.2.2 hc
        refine zr_sipush (pc' := 30) dX12_reading_27 rfl rfl ?_
        exact zr_ireturn dX12_reading_30 rfl rfl trivial (Nat.le_refl _) (Nat.le_refl _) (And.intro rfl h)
set_option maxRecDepth 20000 in
theorem vcX12_wrong {E : zE} {M : zM} {Q : Int → zM → Prop} (l1 : Int)
    (h : (∀ M1, M1 = zup M 102 15 l1 → (∀ M2, M2 = zup M1 102 16 (M1 102 21) → Q 0 M2)))
    : zP E mX12_wrong [.inr (.inr 102), .inl l1] M Q := by
  refine zP_of (by decide +kernel) rfl (Nat.le_of_ble_eq_true rfl) ?_
  show zA E zNN (0, 0) mX12_wrong 0 [(0, .inr (.inr 102)), (1, .inl l1)] [] M (zQ Q)
  refine zr_aload_n (pc' := 1) (i := 0) dX12_wrong_0 rfl rfl rfl ?_
  refine zr_iload_n (pc' := 2) (i := 1) dX12_wrong_1 rfl rfl rfl ?_
  refine zr_put (pc' := 5) dX12_wrong_2 rfl ps_102 kd_102 fl_X12_238 kc_12 rfl nf_102_15 rfl trivial (fun M1 hM1 => ?_)
  have h := h M1 hM1
  refine zr_aload_n (pc' := 6) (i := 0) dX12_wrong_5 rfl rfl rfl ?_
  refine zr_aload_n (pc' := 7) (i := 0) dX12_wrong_6 rfl rfl rfl ?_
  refine zr_get (pc' := 10) dX12_wrong_7 rfl ps_102 kd_102 fl_X12_241 kc_12 (gv_102_21 _) ?_
  refine zr_put (pc' := 13) dX12_wrong_10 rfl ps_102 kd_102 fl_X12_41 kc_12 rfl nf_102_16 rfl trivial (fun M2 hM1 => ?_)
  have h := h M2 hM1
  refine zr_iconst (pc' := 14) dX12_wrong_13 rfl ?_
  exact zr_ireturn dX12_wrong_14 rfl rfl (Or.inl rfl) (Nat.le_refl _) (Nat.le_refl _) (And.intro rfl h)
set_option maxRecDepth 20000 in
theorem vcX12_wordAt {E : zE} {M : zM} {Q : Int → zM → Prop} (l1 l2 : Int) (I5 : Nat → Int → Int → Int → Int → zM → Prop) (I18 : Nat → Int → Int → Int → Int → Int → zM → Prop) (I57 : Nat → Int → Int → Int → Int → Int → Int → Int → zM → Prop)
    (h : ∃ n', I5 n' l1 l2 0 0 M)
    (h5 : ∀ (n : Nat) (l1 l2 l3 l4 : Int) (M : zM), I5 n l1 l2 l3 l4 M → ((zR l4) ∧ ((77 ≤ l4 → Q (-1) M) ∧ (l4 < 77 → ∃ n', n' < n ∧ I18 n' l1 l2 l3 l4 0 M))))
    (h18 : ∀ (n : Nat) (l1 l2 l3 l4 l5 : Int) (M : zM), I18 n l1 l2 l3 l4 l5 M → (0 ≤ l4 + l5 ∧ l4 + l5 < 77) ∧ ((zR (M 112 ((l4 + l5).toNat))) ∧ (((M 112 ((l4 + l5).toNat)) = 32 → ((zR l5 ∧ zR (l2 - l1)) ∧ ((¬ l5 = (l2 - l1) → ∃ n', n' < n ∧ I57 n' l1 l2 l3 l4 l5 0 0 M) ∧ (l5 = (l2 - l1) → ∃ n', n' < n ∧ I57 n' l1 l2 l3 l4 l5 1 0 M)))) ∧ (¬ (M 112 ((l4 + l5).toNat)) = 32 → ∃ n', n' < n ∧ I18 n' l1 l2 l3 l4 (l5 + 1) M))))
    (h57 : ∀ (n : Nat) (l1 l2 l3 l4 l5 l6 l7 : Int) (M : zM), I57 n l1 l2 l3 l4 l5 l6 l7 M → ((zR l7 ∧ zR l5) ∧ ((l5 ≤ l7 → ((zR l6) ∧ ((l6 = 0 → ∃ n', n' < n ∧ I5 n' l1 l2 (l3 + 1) (l4 + (l5 + 1)) M) ∧ (¬ l6 = 0 → Q l3 M)))) ∧ (l7 < l5 → ((zR l6) ∧ ((l6 = 0 → ((zR l6) ∧ ((l6 = 0 → ∃ n', n' < n ∧ I5 n' l1 l2 (l3 + 1) (l4 + (l5 + 1)) M) ∧ (¬ l6 = 0 → Q l3 M)))) ∧ (¬ l6 = 0 → (0 ≤ l4 + l7 ∧ l4 + l7 < 77) ∧ (0 ≤ l1 + l7 ∧ l1 + l7 < 500) ∧ ((zR (M 112 ((l4 + l7).toNat)) ∧ zR (M 103 ((l1 + l7).toNat))) ∧ ((¬ (M 112 ((l4 + l7).toNat)) = (M 103 ((l1 + l7).toNat)) → ∃ n', n' < n ∧ I57 n' l1 l2 l3 l4 l5 0 (l7 + 1) M) ∧ ((M 112 ((l4 + l7).toNat)) = (M 103 ((l1 + l7).toNat)) → ∃ n', n' < n ∧ I57 n' l1 l2 l3 l4 l5 1 (l7 + 1) M))))))))))
    : zP E mX12_wordAt [.inr (.inr 102), .inl l1, .inl l2] M Q := by
  have key : ∀ n : Nat, (∀ (l1 l2 l3 l4 : Int) (M : zM), I5 n l1 l2 l3 l4 M → zA E zNN (0, 0) mX12_wordAt 5 [(0, .inr (.inr 102)), (1, .inl l1), (2, .inl l2), (3, .inl l3), (4, .inl l4)] [] M (zQ Q)) ∧ (∀ (l1 l2 l3 l4 l5 : Int) (M : zM), I18 n l1 l2 l3 l4 l5 M → zA E zNN (0, 0) mX12_wordAt 18 [(0, .inr (.inr 102)), (1, .inl l1), (2, .inl l2), (3, .inl l3), (4, .inl l4), (5, .inl l5)] [] M (zQ Q)) ∧ (∀ (l1 l2 l3 l4 l5 l6 l7 : Int) (M : zM), I57 n l1 l2 l3 l4 l5 l6 l7 M → zA E zNN (0, 0) mX12_wordAt 57 [(0, .inr (.inr 102)), (1, .inl l1), (2, .inl l2), (3, .inl l3), (4, .inl l4), (5, .inl l5), (6, .inl l6), (7, .inl l7)] [] M (zQ Q)) := by
    intro n
    induction n using Nat.strongRecOn with
    | ind n ih =>
      refine ⟨?_, ?_, ?_⟩
      · intro l1 l2 l3 l4 M h
        have h := h5 n l1 l2 l3 l4 M h
        refine zr_iload (pc' := 7) dX12_wordAt_5 rfl rfl ?_
        refine zr_aload_n (pc' := 8) (i := 0) dX12_wordAt_7 rfl rfl rfl ?_
        refine zr_get (pc' := 11) dX12_wordAt_8 rfl ps_102 kd_102 fl_X12_38 kc_12 (gv_102_14 _) ?_
        refine zr_alen (pc' := 12) (t0 := 0) dX12_wordAt_11 rfl ps_112 kd_112 (by decide) (fun _ => rfl) ?_
        refine zr_icmp_ge (tgt := 126) (pc' := 15) dX12_wordAt_12 rfl rfl h.1 (zRd rfl) (fun hc => ?_) (fun hc => ?_)
        · have h := h.2.1 hc
          refine zr_iconst (pc' := 127) dX12_wordAt_126 rfl ?_
          exact zr_ireturn dX12_wordAt_127 rfl rfl trivial (Nat.le_refl _) (Nat.le_refl _) (And.intro rfl h)
        · have h := h.2.2 hc
          refine zr_iconst (pc' := 16) dX12_wordAt_15 rfl ?_
          refine zr_istore (pc' := 18) (al' := [(5, .inl 0), (0, .inr (.inr 102)), (1, .inl l1), (2, .inl l2), (3, .inl l3), (4, .inl l4)]) dX12_wordAt_16 rfl (by decide) rfl ?_
          obtain ⟨n', hn, h⟩ := h
          exact zn_al ((ih n' hn).2.1 _ _ _ _ _ _ h) ⟨rfl, rfl, rfl, rfl, rfl, rfl, trivial⟩
      · intro l1 l2 l3 l4 l5 M h
        have h := h18 n l1 l2 l3 l4 l5 M h
        refine zr_aload_n (pc' := 19) (i := 0) dX12_wordAt_18 rfl rfl rfl ?_
        refine zr_get (pc' := 22) dX12_wordAt_19 rfl ps_102 kd_102 fl_X12_38 kc_12 (gv_102_14 _) ?_
        refine zr_iload (pc' := 24) dX12_wordAt_22 rfl rfl ?_
        refine zr_iload (pc' := 26) dX12_wordAt_24 rfl rfl ?_
        refine zr_iadd (pc' := 27) dX12_wordAt_26 rfl ?_
        refine zr_iald (pc' := 28) dX12_wordAt_27 rfl ps_112 kd_112 (by decide) h.1.1 h.1.2 ?_
        have h := h.2
        refine zr_bipush (pc' := 30) dX12_wordAt_28 rfl rfl ?_
        refine zr_icmp_eq (tgt := 39) (pc' := 33) dX12_wordAt_30 rfl rfl h.1 (zRd rfl) (fun hc => ?_) (fun hc => ?_)
        · have h := h.2.1 hc
          refine zr_iload (pc' := 41) dX12_wordAt_39 rfl rfl ?_
          refine zr_iload_n (pc' := 42) (i := 2) dX12_wordAt_41 rfl rfl rfl ?_
          refine zr_iload_n (pc' := 43) (i := 1) dX12_wordAt_42 rfl rfl rfl ?_
          refine zr_isub (pc' := 44) dX12_wordAt_43 rfl ?_
          refine zr_icmp_ne (tgt := 51) (pc' := 47) dX12_wordAt_44 rfl rfl h.1.1 h.1.2 (fun hc => ?_) (fun hc => ?_)
          · have h := h.2.1 hc
            refine zr_iconst (pc' := 52) dX12_wordAt_51 rfl ?_
            refine zr_istore (pc' := 54) (al' := [(6, .inl 0), (0, .inr (.inr 102)), (1, .inl l1), (2, .inl l2), (3, .inl l3), (4, .inl l4), (5, .inl l5)]) dX12_wordAt_52 rfl (by decide) rfl ?_
            refine zr_iconst (pc' := 55) dX12_wordAt_54 rfl ?_
            refine zr_istore (pc' := 57) (al' := [(7, .inl 0), (6, .inl 0), (0, .inr (.inr 102)), (1, .inl l1), (2, .inl l2), (3, .inl l3), (4, .inl l4), (5, .inl l5)]) dX12_wordAt_55 rfl (by decide) rfl ?_
            obtain ⟨n', hn, h⟩ := h
            exact zn_al ((ih n' hn).2.2 _ _ _ _ _ _ _ _ h) ⟨rfl, rfl, rfl, rfl, rfl, rfl, rfl, rfl, trivial⟩
          · have h := h.2.2 hc
            refine zr_iconst (pc' := 48) dX12_wordAt_47 rfl ?_
            refine zr_goto (pc' := 52) dX12_wordAt_48 rfl ?_
            refine zr_istore (pc' := 54) (al' := [(6, .inl 1), (0, .inr (.inr 102)), (1, .inl l1), (2, .inl l2), (3, .inl l3), (4, .inl l4), (5, .inl l5)]) dX12_wordAt_52 rfl (by decide) rfl ?_
            refine zr_iconst (pc' := 55) dX12_wordAt_54 rfl ?_
            refine zr_istore (pc' := 57) (al' := [(7, .inl 0), (6, .inl 1), (0, .inr (.inr 102)), (1, .inl l1), (2, .inl l2), (3, .inl l3), (4, .inl l4), (5, .inl l5)]) dX12_wordAt_55 rfl (by decide) rfl ?_
            obtain ⟨n', hn, h⟩ := h
            exact zn_al ((ih n' hn).2.2 _ _ _ _ _ _ _ _ h) ⟨rfl, rfl, rfl, rfl, rfl, rfl, rfl, rfl, trivial⟩
        · have h := h.2.2 hc
          refine zr_iinc (pc' := 36) (al' := [(5, .inl (l5 + 1)), (0, .inr (.inr 102)), (1, .inl l1), (2, .inl l2), (3, .inl l3), (4, .inl l4)]) dX12_wordAt_33 rfl rfl (by decide) rfl ?_
          refine zr_goto (pc' := 18) dX12_wordAt_36 rfl ?_
          obtain ⟨n', hn, h⟩ := h
          exact zn_al ((ih n' hn).2.1 _ _ _ _ _ _ h) ⟨rfl, rfl, rfl, rfl, rfl, rfl, trivial⟩
      · intro l1 l2 l3 l4 l5 l6 l7 M h
        have h := h57 n l1 l2 l3 l4 l5 l6 l7 M h
        refine zr_iload (pc' := 59) dX12_wordAt_57 rfl rfl ?_
        refine zr_iload (pc' := 61) dX12_wordAt_59 rfl rfl ?_
        refine zr_icmp_ge (tgt := 104) (pc' := 64) dX12_wordAt_61 rfl rfl h.1.1 h.1.2 (fun hc => ?_) (fun hc => ?_)
        · have h := h.2.1 hc
          refine zr_iload (pc' := 106) dX12_wordAt_104 rfl rfl ?_
          refine zr_if_eq (tgt := 111) (pc' := 109) dX12_wordAt_106 rfl rfl h.1 (fun hc => ?_) (fun hc => ?_)
          · have h := h.2.1 hc
            refine zr_iload (pc' := 113) dX12_wordAt_111 rfl rfl ?_
            refine zr_iload (pc' := 115) dX12_wordAt_113 rfl rfl ?_
            refine zr_iconst (pc' := 116) dX12_wordAt_115 rfl ?_
            refine zr_iadd (pc' := 117) dX12_wordAt_116 rfl ?_
            refine zr_iadd (pc' := 118) dX12_wordAt_117 rfl ?_
            refine zr_istore (pc' := 120) (al' := [(4, .inl (l4 + (l5 + 1))), (0, .inr (.inr 102)), (1, .inl l1), (2, .inl l2), (3, .inl l3), (5, .inl l5), (6, .inl l6), (7, .inl l7)]) dX12_wordAt_118 rfl (by decide) rfl ?_
            refine zr_iinc (pc' := 123) (al' := [(3, .inl (l3 + 1)), (4, .inl (l4 + (l5 + 1))), (0, .inr (.inr 102)), (1, .inl l1), (2, .inl l2), (5, .inl l5), (6, .inl l6), (7, .inl l7)]) dX12_wordAt_120 rfl rfl (by decide) rfl ?_
            refine zr_goto (pc' := 5) dX12_wordAt_123 rfl ?_
            obtain ⟨n', hn, h⟩ := h
            exact zn_al ((ih n' hn).1 _ _ _ _ _ h) ⟨rfl, rfl, rfl, rfl, rfl, trivial⟩
          · have h := h.2.2 hc
            refine zr_iload_n (pc' := 110) (i := 3) dX12_wordAt_109 rfl rfl rfl ?_
            exact zr_ireturn dX12_wordAt_110 rfl rfl trivial (Nat.le_refl _) (Nat.le_refl _) (And.intro rfl h)
        · have h := h.2.2 hc
          refine zr_iload (pc' := 66) dX12_wordAt_64 rfl rfl ?_
          refine zr_if_eq (tgt := 104) (pc' := 69) dX12_wordAt_66 rfl rfl h.1 (fun hc => ?_) (fun hc => ?_)
          · have h := h.2.1 hc
            refine zr_iload (pc' := 106) dX12_wordAt_104 rfl rfl ?_
            refine zr_if_eq (tgt := 111) (pc' := 109) dX12_wordAt_106 rfl rfl h.1 (fun hc => ?_) (fun hc => ?_)
            · have h := h.2.1 hc
              refine zr_iload (pc' := 113) dX12_wordAt_111 rfl rfl ?_
              refine zr_iload (pc' := 115) dX12_wordAt_113 rfl rfl ?_
              refine zr_iconst (pc' := 116) dX12_wordAt_115 rfl ?_
              refine zr_iadd (pc' := 117) dX12_wordAt_116 rfl ?_
              refine zr_iadd (pc' := 118) dX12_wordAt_117 rfl ?_
              refine zr_istore (pc' := 120) (al' := [(4, .inl (l4 + (l5 + 1))), (0, .inr (.inr 102)), (1, .inl l1), (2, .inl l2), (3, .inl l3), (5, .inl l5), (6, .inl l6), (7, .inl l7)]) dX12_wordAt_118 rfl (by decide) rfl ?_
              refine zr_iinc (pc' := 123) (al' := [(3, .inl (l3 + 1)), (4, .inl (l4 + (l5 + 1))), (0, .inr (.inr 102)), (1, .inl l1), (2, .inl l2), (5, .inl l5), (6, .inl l6), (7, .inl l7)]) dX12_wordAt_120 rfl rfl (by decide) rfl ?_
              refine zr_goto (pc' := 5) dX12_wordAt_123 rfl ?_
              obtain ⟨n', hn, h⟩ := h
              exact zn_al ((ih n' hn).1 _ _ _ _ _ h) ⟨rfl, rfl, rfl, rfl, rfl, trivial⟩
            · have h := h.2.2 hc
              refine zr_iload_n (pc' := 110) (i := 3) dX12_wordAt_109 rfl rfl rfl ?_
              exact zr_ireturn dX12_wordAt_110 rfl rfl trivial (Nat.le_refl _) (Nat.le_refl _) (And.intro rfl h)
          · have h := h.2.2 hc
            refine zr_aload_n (pc' := 70) (i := 0) dX12_wordAt_69 rfl rfl rfl ?_
            refine zr_get (pc' := 73) dX12_wordAt_70 rfl ps_102 kd_102 fl_X12_38 kc_12 (gv_102_14 _) ?_
            refine zr_iload (pc' := 75) dX12_wordAt_73 rfl rfl ?_
            refine zr_iload (pc' := 77) dX12_wordAt_75 rfl rfl ?_
            refine zr_iadd (pc' := 78) dX12_wordAt_77 rfl ?_
            refine zr_iald (pc' := 79) dX12_wordAt_78 rfl ps_112 kd_112 (by decide) h.1.1 h.1.2 ?_
            have h := h.2
            refine zr_aload_n (pc' := 80) (i := 0) dX12_wordAt_79 rfl rfl rfl ?_
            refine zr_get (pc' := 83) dX12_wordAt_80 rfl ps_102 kd_102 fl_X12_7 kc_12 (gv_102_0 _) ?_
            refine zr_iload_n (pc' := 84) (i := 1) dX12_wordAt_83 rfl rfl rfl ?_
            refine zr_iload (pc' := 86) dX12_wordAt_84 rfl rfl ?_
            refine zr_iadd (pc' := 87) dX12_wordAt_86 rfl ?_
            refine zr_iald (pc' := 88) dX12_wordAt_87 rfl ps_103 kd_103 (by decide) h.1.1 h.1.2 ?_
            have h := h.2
            refine zr_icmp_ne (tgt := 95) (pc' := 91) dX12_wordAt_88 rfl rfl h.1.1 h.1.2 (fun hc => ?_) (fun hc => ?_)
            · have h := h.2.1 hc
              refine zr_iconst (pc' := 96) dX12_wordAt_95 rfl ?_
              refine zr_istore (pc' := 98) (al' := [(6, .inl 0), (0, .inr (.inr 102)), (1, .inl l1), (2, .inl l2), (3, .inl l3), (4, .inl l4), (5, .inl l5), (7, .inl l7)]) dX12_wordAt_96 rfl (by decide) rfl ?_
              refine zr_iinc (pc' := 101) (al' := [(7, .inl (l7 + 1)), (6, .inl 0), (0, .inr (.inr 102)), (1, .inl l1), (2, .inl l2), (3, .inl l3), (4, .inl l4), (5, .inl l5)]) dX12_wordAt_98 rfl rfl (by decide) rfl ?_
              refine zr_goto (pc' := 57) dX12_wordAt_101 rfl ?_
              obtain ⟨n', hn, h⟩ := h
              exact zn_al ((ih n' hn).2.2 _ _ _ _ _ _ _ _ h) ⟨rfl, rfl, rfl, rfl, rfl, rfl, rfl, rfl, trivial⟩
            · have h := h.2.2 hc
              refine zr_iconst (pc' := 92) dX12_wordAt_91 rfl ?_
              refine zr_goto (pc' := 96) dX12_wordAt_92 rfl ?_
              refine zr_istore (pc' := 98) (al' := [(6, .inl 1), (0, .inr (.inr 102)), (1, .inl l1), (2, .inl l2), (3, .inl l3), (4, .inl l4), (5, .inl l5), (7, .inl l7)]) dX12_wordAt_96 rfl (by decide) rfl ?_
              refine zr_iinc (pc' := 101) (al' := [(7, .inl (l7 + 1)), (6, .inl 1), (0, .inr (.inr 102)), (1, .inl l1), (2, .inl l2), (3, .inl l3), (4, .inl l4), (5, .inl l5)]) dX12_wordAt_98 rfl rfl (by decide) rfl ?_
              refine zr_goto (pc' := 57) dX12_wordAt_101 rfl ?_
              obtain ⟨n', hn, h⟩ := h
              exact zn_al ((ih n' hn).2.2 _ _ _ _ _ _ _ _ h) ⟨rfl, rfl, rfl, rfl, rfl, rfl, rfl, rfl, trivial⟩
  refine zP_of (by decide +kernel) rfl (Nat.le_of_ble_eq_true rfl) ?_
  show zA E zNN (0, 0) mX12_wordAt 0 [(0, .inr (.inr 102)), (1, .inl l1), (2, .inl l2)] [] M (zQ Q)
  refine zr_iconst (pc' := 1) dX12_wordAt_0 rfl ?_
  refine zr_istore_n (pc' := 2) (i := 3) (al' := [(3, .inl 0), (0, .inr (.inr 102)), (1, .inl l1), (2, .inl l2)]) dX12_wordAt_1 rfl rfl (by decide) rfl ?_
  refine zr_iconst (pc' := 3) dX12_wordAt_2 rfl ?_
  refine zr_istore (pc' := 5) (al' := [(4, .inl 0), (3, .inl 0), (0, .inr (.inr 102)), (1, .inl l1), (2, .inl l2)]) dX12_wordAt_3 rfl (by decide) rfl ?_
  obtain ⟨n', h⟩ := h
  exact zn_al ((key n').1 _ _ _ _ _ h) ⟨rfl, rfl, rfl, rfl, rfl, trivial⟩
set_option maxRecDepth 20000 in
theorem vcX12_isSmall {E : zE} {M : zM} {Q : Int → zM → Prop} (l1 : Int)
    (h : ((zR l1 ∧ zR (M 102 17)) ∧ (((M 102 17) ≤ l1 → Q 0 M) ∧ (l1 < (M 102 17) → (0 ≤ l1 ∧ l1 < 500) ∧ ((zR (M 103 l1.toNat)) ∧ (((M 103 l1.toNat) < 97 → Q 0 M) ∧ (97 ≤ (M 103 l1.toNat) → (0 ≤ l1 ∧ l1 < 500) ∧ ((zR (M 103 l1.toNat)) ∧ ((122 < (M 103 l1.toNat) → Q 0 M) ∧ ((M 103 l1.toNat) ≤ 122 → Q 1 M))))))))))
    : zP E mX12_isSmall [.inr (.inr 102), .inl l1] M Q := by
  refine zP_of (by decide +kernel) rfl (Nat.le_of_ble_eq_true rfl) ?_
  show zA E zNN (0, 0) mX12_isSmall 0 [(0, .inr (.inr 102)), (1, .inl l1)] [] M (zQ Q)
  refine zr_iload_n (pc' := 1) (i := 1) dX12_isSmall_0 rfl rfl rfl ?_
  refine zr_aload_n (pc' := 2) (i := 0) dX12_isSmall_1 rfl rfl rfl ?_
  refine zr_get (pc' := 5) dX12_isSmall_2 rfl ps_102 kd_102 fl_X12_244 kc_12 (gv_102_17 _) ?_
  refine zr_icmp_ge (tgt := 34) (pc' := 8) dX12_isSmall_5 rfl rfl h.1.1 h.1.2 (fun hc => ?_) (fun hc => ?_)
  · have h := h.2.1 hc
    refine zr_iconst (pc' := 35) dX12_isSmall_34 rfl ?_
    exact zr_ireturn dX12_isSmall_35 rfl rfl (Or.inl rfl) (Nat.le_refl _) (Nat.le_refl _) (And.intro rfl h)
  · have h := h.2.2 hc
    refine zr_aload_n (pc' := 9) (i := 0) dX12_isSmall_8 rfl rfl rfl ?_
    refine zr_get (pc' := 12) dX12_isSmall_9 rfl ps_102 kd_102 fl_X12_7 kc_12 (gv_102_0 _) ?_
    refine zr_iload_n (pc' := 13) (i := 1) dX12_isSmall_12 rfl rfl rfl ?_
    refine zr_iald (pc' := 14) dX12_isSmall_13 rfl ps_103 kd_103 (by decide) h.1.1 h.1.2 ?_
    have h := h.2
    refine zr_bipush (pc' := 16) dX12_isSmall_14 rfl rfl ?_
    refine zr_icmp_lt (tgt := 34) (pc' := 19) dX12_isSmall_16 rfl rfl h.1 (zRd rfl) (fun hc => ?_) (fun hc => ?_)
    · have h := h.2.1 hc
      refine zr_iconst (pc' := 35) dX12_isSmall_34 rfl ?_
      exact zr_ireturn dX12_isSmall_35 rfl rfl (Or.inl rfl) (Nat.le_refl _) (Nat.le_refl _) (And.intro rfl h)
    · have h := h.2.2 hc
      refine zr_aload_n (pc' := 20) (i := 0) dX12_isSmall_19 rfl rfl rfl ?_
      refine zr_get (pc' := 23) dX12_isSmall_20 rfl ps_102 kd_102 fl_X12_7 kc_12 (gv_102_0 _) ?_
      refine zr_iload_n (pc' := 24) (i := 1) dX12_isSmall_23 rfl rfl rfl ?_
      refine zr_iald (pc' := 25) dX12_isSmall_24 rfl ps_103 kd_103 (by decide) h.1.1 h.1.2 ?_
      have h := h.2
      refine zr_bipush (pc' := 27) dX12_isSmall_25 rfl rfl ?_
      refine zr_icmp_gt (tgt := 34) (pc' := 30) dX12_isSmall_27 rfl rfl h.1 (zRd rfl) (fun hc => ?_) (fun hc => ?_)
      · have h := h.2.1 hc
        refine zr_iconst (pc' := 35) dX12_isSmall_34 rfl ?_
        exact zr_ireturn dX12_isSmall_35 rfl rfl (Or.inl rfl) (Nat.le_refl _) (Nat.le_refl _) (And.intro rfl h)
      · have h := h.2.2 hc
        refine zr_iconst (pc' := 31) dX12_isSmall_30 rfl ?_
        refine zr_goto (pc' := 35) dX12_isSmall_31 rfl ?_
        exact zr_ireturn dX12_isSmall_35 rfl rfl (Or.inr rfl) (Nat.le_refl _) (Nat.le_refl _) (And.intro rfl h)
set_option maxRecDepth 20000 in
theorem vcX12_isDigit {E : zE} {M : zM} {Q : Int → zM → Prop} (l1 : Int)
    (h : ((zR l1 ∧ zR (M 102 17)) ∧ (((M 102 17) ≤ l1 → Q 0 M) ∧ (l1 < (M 102 17) → (0 ≤ l1 ∧ l1 < 500) ∧ ((zR (M 103 l1.toNat)) ∧ (((M 103 l1.toNat) < 48 → Q 0 M) ∧ (48 ≤ (M 103 l1.toNat) → (0 ≤ l1 ∧ l1 < 500) ∧ ((zR (M 103 l1.toNat)) ∧ ((57 < (M 103 l1.toNat) → Q 0 M) ∧ ((M 103 l1.toNat) ≤ 57 → Q 1 M))))))))))
    : zP E mX12_isDigit [.inr (.inr 102), .inl l1] M Q := by
  refine zP_of (by decide +kernel) rfl (Nat.le_of_ble_eq_true rfl) ?_
  show zA E zNN (0, 0) mX12_isDigit 0 [(0, .inr (.inr 102)), (1, .inl l1)] [] M (zQ Q)
  refine zr_iload_n (pc' := 1) (i := 1) dX12_isDigit_0 rfl rfl rfl ?_
  refine zr_aload_n (pc' := 2) (i := 0) dX12_isDigit_1 rfl rfl rfl ?_
  refine zr_get (pc' := 5) dX12_isDigit_2 rfl ps_102 kd_102 fl_X12_244 kc_12 (gv_102_17 _) ?_
  refine zr_icmp_ge (tgt := 34) (pc' := 8) dX12_isDigit_5 rfl rfl h.1.1 h.1.2 (fun hc => ?_) (fun hc => ?_)
  · have h := h.2.1 hc
    refine zr_iconst (pc' := 35) dX12_isDigit_34 rfl ?_
    exact zr_ireturn dX12_isDigit_35 rfl rfl (Or.inl rfl) (Nat.le_refl _) (Nat.le_refl _) (And.intro rfl h)
  · have h := h.2.2 hc
    refine zr_aload_n (pc' := 9) (i := 0) dX12_isDigit_8 rfl rfl rfl ?_
    refine zr_get (pc' := 12) dX12_isDigit_9 rfl ps_102 kd_102 fl_X12_7 kc_12 (gv_102_0 _) ?_
    refine zr_iload_n (pc' := 13) (i := 1) dX12_isDigit_12 rfl rfl rfl ?_
    refine zr_iald (pc' := 14) dX12_isDigit_13 rfl ps_103 kd_103 (by decide) h.1.1 h.1.2 ?_
    have h := h.2
    refine zr_bipush (pc' := 16) dX12_isDigit_14 rfl rfl ?_
    refine zr_icmp_lt (tgt := 34) (pc' := 19) dX12_isDigit_16 rfl rfl h.1 (zRd rfl) (fun hc => ?_) (fun hc => ?_)
    · have h := h.2.1 hc
      refine zr_iconst (pc' := 35) dX12_isDigit_34 rfl ?_
      exact zr_ireturn dX12_isDigit_35 rfl rfl (Or.inl rfl) (Nat.le_refl _) (Nat.le_refl _) (And.intro rfl h)
    · have h := h.2.2 hc
      refine zr_aload_n (pc' := 20) (i := 0) dX12_isDigit_19 rfl rfl rfl ?_
      refine zr_get (pc' := 23) dX12_isDigit_20 rfl ps_102 kd_102 fl_X12_7 kc_12 (gv_102_0 _) ?_
      refine zr_iload_n (pc' := 24) (i := 1) dX12_isDigit_23 rfl rfl rfl ?_
      refine zr_iald (pc' := 25) dX12_isDigit_24 rfl ps_103 kd_103 (by decide) h.1.1 h.1.2 ?_
      have h := h.2
      refine zr_bipush (pc' := 27) dX12_isDigit_25 rfl rfl ?_
      refine zr_icmp_gt (tgt := 34) (pc' := 30) dX12_isDigit_27 rfl rfl h.1 (zRd rfl) (fun hc => ?_) (fun hc => ?_)
      · have h := h.2.1 hc
        refine zr_iconst (pc' := 35) dX12_isDigit_34 rfl ?_
        exact zr_ireturn dX12_isDigit_35 rfl rfl (Or.inl rfl) (Nat.le_refl _) (Nat.le_refl _) (And.intro rfl h)
      · have h := h.2.2 hc
        refine zr_iconst (pc' := 31) dX12_isDigit_30 rfl ?_
        refine zr_goto (pc' := 35) dX12_isDigit_31 rfl ?_
        exact zr_ireturn dX12_isDigit_35 rfl rfl (Or.inr rfl) (Nat.le_refl _) (Nat.le_refl _) (And.intro rfl h)
set_option maxRecDepth 20000 in
theorem vcX12_isAt {E : zE} {M : zM} {Q : Int → zM → Prop} (l1 l2 : Int)
    (h : ((zR l1 ∧ zR (M 102 17)) ∧ (((M 102 17) ≤ l1 → Q 0 M) ∧ (l1 < (M 102 17) → (0 ≤ l1 ∧ l1 < 500) ∧ ((zR (M 103 l1.toNat) ∧ zR l2) ∧ ((¬ (M 103 l1.toNat) = l2 → Q 0 M) ∧ ((M 103 l1.toNat) = l2 → Q 1 M)))))))
    : zP E mX12_isAt [.inr (.inr 102), .inl l1, .inl l2] M Q := by
  refine zP_of (by decide +kernel) rfl (Nat.le_of_ble_eq_true rfl) ?_
  show zA E zNN (0, 0) mX12_isAt 0 [(0, .inr (.inr 102)), (1, .inl l1), (2, .inl l2)] [] M (zQ Q)
  refine zr_iload_n (pc' := 1) (i := 1) dX12_isAt_0 rfl rfl rfl ?_
  refine zr_aload_n (pc' := 2) (i := 0) dX12_isAt_1 rfl rfl rfl ?_
  refine zr_get (pc' := 5) dX12_isAt_2 rfl ps_102 kd_102 fl_X12_244 kc_12 (gv_102_17 _) ?_
  refine zr_icmp_ge (tgt := 22) (pc' := 8) dX12_isAt_5 rfl rfl h.1.1 h.1.2 (fun hc => ?_) (fun hc => ?_)
  · have h := h.2.1 hc
    refine zr_iconst (pc' := 23) dX12_isAt_22 rfl ?_
    exact zr_ireturn dX12_isAt_23 rfl rfl (Or.inl rfl) (Nat.le_refl _) (Nat.le_refl _) (And.intro rfl h)
  · have h := h.2.2 hc
    refine zr_aload_n (pc' := 9) (i := 0) dX12_isAt_8 rfl rfl rfl ?_
    refine zr_get (pc' := 12) dX12_isAt_9 rfl ps_102 kd_102 fl_X12_7 kc_12 (gv_102_0 _) ?_
    refine zr_iload_n (pc' := 13) (i := 1) dX12_isAt_12 rfl rfl rfl ?_
    refine zr_iald (pc' := 14) dX12_isAt_13 rfl ps_103 kd_103 (by decide) h.1.1 h.1.2 ?_
    have h := h.2
    refine zr_iload_n (pc' := 15) (i := 2) dX12_isAt_14 rfl rfl rfl ?_
    refine zr_icmp_ne (tgt := 22) (pc' := 18) dX12_isAt_15 rfl rfl h.1.1 h.1.2 (fun hc => ?_) (fun hc => ?_)
    · have h := h.2.1 hc
      refine zr_iconst (pc' := 23) dX12_isAt_22 rfl ?_
      exact zr_ireturn dX12_isAt_23 rfl rfl (Or.inl rfl) (Nat.le_refl _) (Nat.le_refl _) (And.intro rfl h)
    · have h := h.2.2 hc
      refine zr_iconst (pc' := 19) dX12_isAt_18 rfl ?_
      refine zr_goto (pc' := 23) dX12_isAt_19 rfl ?_
      exact zr_ireturn dX12_isAt_23 rfl rfl (Or.inr rfl) (Nat.le_refl _) (Nat.le_refl _) (And.intro rfl h)
set_option maxRecDepth 20000 in
theorem vcX12_signOf {E : zE} {M : zM} {Q : Int → zM → Prop} (l1 : Int)
    (h : ((zR l1) ∧ ((¬ l1 = 60 → ((zR l1) ∧ ((¬ l1 = 62 → ((zR l1) ∧ ((¬ l1 = 61 → ((zR l1) ∧ ((¬ l1 = 43 → ((zR l1) ∧ ((¬ l1 = 45 → ((zR l1) ∧ ((¬ l1 = 42 → ((zR l1) ∧ ((¬ l1 = 47 → ((zR l1) ∧ ((l1 = 59 → Q l1 M) ∧ (¬ l1 = 59 → ((zR l1) ∧ ((l1 = 44 → Q l1 M) ∧ (¬ l1 = 44 → ((zR l1) ∧ ((l1 = 40 → Q l1 M) ∧ (¬ l1 = 40 → ((zR l1) ∧ ((¬ l1 = 41 → Q (-1) M) ∧ (l1 = 41 → Q l1 M))))))))))))) ∧ (l1 = 47 → Q 10 M)))) ∧ (l1 = 42 → Q 9 M)))) ∧ (l1 = 45 → Q 8 M)))) ∧ (l1 = 43 → Q 7 M)))) ∧ (l1 = 61 → Q 3 M)))) ∧ (l1 = 62 → (zP E mX12_isAt [.inr (.inr 102), .inl (M 102 18), .inl 61] M (fun r1 M2 => ((zR r1) ∧ ((r1 = 0 → Q 6 M2) ∧ (¬ r1 = 0 → Q 5 M2))))))))) ∧ (l1 = 60 → (zP E mX12_isAt [.inr (.inr 102), .inl (M 102 18), .inl 61] M (fun r3 M4 => ((zR r3) ∧ ((r3 = 0 → (zP E mX12_isAt [.inr (.inr 102), .inl (M4 102 18), .inl 62] M4 (fun r5 M6 => ((zR r5) ∧ ((r5 = 0 → Q 1 M6) ∧ (¬ r5 = 0 → Q 4 M6)))))) ∧ (¬ r3 = 0 → Q 2 M4)))))))))
    : zP E mX12_signOf [.inr (.inr 102), .inl l1] M Q := by
  refine zP_of (by decide +kernel) rfl (Nat.le_of_ble_eq_true rfl) ?_
  show zA E zNN (0, 0) mX12_signOf 0 [(0, .inr (.inr 102)), (1, .inl l1)] [] M (zQ Q)
  refine zr_iload_n (pc' := 1) (i := 1) dX12_signOf_0 rfl rfl rfl ?_
  refine zr_bipush (pc' := 3) dX12_signOf_1 rfl rfl ?_
  refine zr_icmp_ne (tgt := 42) (pc' := 6) dX12_signOf_3 rfl rfl h.1 (zRd rfl) (fun hc => ?_) (fun hc => ?_)
  · have h := h.2.1 hc
    refine zr_iload_n (pc' := 43) (i := 1) dX12_signOf_42 rfl rfl rfl ?_
    refine zr_bipush (pc' := 45) dX12_signOf_43 rfl rfl ?_
    refine zr_icmp_ne (tgt := 68) (pc' := 48) dX12_signOf_45 rfl rfl h.1 (zRd rfl) (fun hc => ?_) (fun hc => ?_)
    · have h := h.2.1 hc
      refine zr_iload_n (pc' := 69) (i := 1) dX12_signOf_68 rfl rfl rfl ?_
      refine zr_bipush (pc' := 71) dX12_signOf_69 rfl rfl ?_
      refine zr_icmp_ne (tgt := 78) (pc' := 74) dX12_signOf_71 rfl rfl h.1 (zRd rfl) (fun hc => ?_) (fun hc => ?_)
      · have h := h.2.1 hc
        refine zr_iload_n (pc' := 79) (i := 1) dX12_signOf_78 rfl rfl rfl ?_
        refine zr_bipush (pc' := 81) dX12_signOf_79 rfl rfl ?_
        refine zr_icmp_ne (tgt := 89) (pc' := 84) dX12_signOf_81 rfl rfl h.1 (zRd rfl) (fun hc => ?_) (fun hc => ?_)
        · have h := h.2.1 hc
          refine zr_iload_n (pc' := 90) (i := 1) dX12_signOf_89 rfl rfl rfl ?_
          refine zr_bipush (pc' := 92) dX12_signOf_90 rfl rfl ?_
          refine zr_icmp_ne (tgt := 100) (pc' := 95) dX12_signOf_92 rfl rfl h.1 (zRd rfl) (fun hc => ?_) (fun hc => ?_)
          · have h := h.2.1 hc
            refine zr_iload_n (pc' := 101) (i := 1) dX12_signOf_100 rfl rfl rfl ?_
            refine zr_bipush (pc' := 103) dX12_signOf_101 rfl rfl ?_
            refine zr_icmp_ne (tgt := 111) (pc' := 106) dX12_signOf_103 rfl rfl h.1 (zRd rfl) (fun hc => ?_) (fun hc => ?_)
            · have h := h.2.1 hc
              refine zr_iload_n (pc' := 112) (i := 1) dX12_signOf_111 rfl rfl rfl ?_
              refine zr_bipush (pc' := 114) dX12_signOf_112 rfl rfl ?_
              refine zr_icmp_ne (tgt := 122) (pc' := 117) dX12_signOf_114 rfl rfl h.1 (zRd rfl) (fun hc => ?_) (fun hc => ?_)
              · have h := h.2.1 hc
                refine zr_iload_n (pc' := 123) (i := 1) dX12_signOf_122 rfl rfl rfl ?_
                refine zr_bipush (pc' := 125) dX12_signOf_123 rfl rfl ?_
                refine zr_icmp_eq (tgt := 146) (pc' := 128) dX12_signOf_125 rfl rfl h.1 (zRd rfl) (fun hc => ?_) (fun hc => ?_)
                · have h := h.2.1 hc
                  refine zr_iload_n (pc' := 147) (i := 1) dX12_signOf_146 rfl rfl rfl ?_
                  refine zr_goto (pc' := 151) dX12_signOf_147 rfl ?_
                  exact zr_ireturn dX12_signOf_151 rfl rfl trivial (Nat.le_refl _) (Nat.le_refl _) (And.intro rfl h)
                · have h := h.2.2 hc
                  refine zr_iload_n (pc' := 129) (i := 1) dX12_signOf_128 rfl rfl rfl ?_
                  refine zr_bipush (pc' := 131) dX12_signOf_129 rfl rfl ?_
                  refine zr_icmp_eq (tgt := 146) (pc' := 134) dX12_signOf_131 rfl rfl h.1 (zRd rfl) (fun hc => ?_) (fun hc => ?_)
                  · have h := h.2.1 hc
                    refine zr_iload_n (pc' := 147) (i := 1) dX12_signOf_146 rfl rfl rfl ?_
                    refine zr_goto (pc' := 151) dX12_signOf_147 rfl ?_
                    exact zr_ireturn dX12_signOf_151 rfl rfl trivial (Nat.le_refl _) (Nat.le_refl _) (And.intro rfl h)
                  · have h := h.2.2 hc
                    refine zr_iload_n (pc' := 135) (i := 1) dX12_signOf_134 rfl rfl rfl ?_
                    refine zr_bipush (pc' := 137) dX12_signOf_135 rfl rfl ?_
                    refine zr_icmp_eq (tgt := 146) (pc' := 140) dX12_signOf_137 rfl rfl h.1 (zRd rfl) (fun hc => ?_) (fun hc => ?_)
                    · have h := h.2.1 hc
                      refine zr_iload_n (pc' := 147) (i := 1) dX12_signOf_146 rfl rfl rfl ?_
                      refine zr_goto (pc' := 151) dX12_signOf_147 rfl ?_
                      exact zr_ireturn dX12_signOf_151 rfl rfl trivial (Nat.le_refl _) (Nat.le_refl _) (And.intro rfl h)
                    · have h := h.2.2 hc
                      refine zr_iload_n (pc' := 141) (i := 1) dX12_signOf_140 rfl rfl rfl ?_
                      refine zr_bipush (pc' := 143) dX12_signOf_141 rfl rfl ?_
                      refine zr_icmp_ne (tgt := 150) (pc' := 146) dX12_signOf_143 rfl rfl h.1 (zRd rfl) (fun hc => ?_) (fun hc => ?_)
                      · have h := h.2.1 hc
                        refine zr_iconst (pc' := 151) dX12_signOf_150 rfl ?_
                        exact zr_ireturn dX12_signOf_151 rfl rfl trivial (Nat.le_refl _) (Nat.le_refl _) (And.intro rfl h)
                      · have h := h.2.2 hc
                        refine zr_iload_n (pc' := 147) (i := 1) dX12_signOf_146 rfl rfl rfl ?_
                        refine zr_goto (pc' := 151) dX12_signOf_147 rfl ?_
                        exact zr_ireturn dX12_signOf_151 rfl rfl trivial (Nat.le_refl _) (Nat.le_refl _) (And.intro rfl h)
              · have h := h.2.2 hc
                refine zr_bipush (pc' := 119) dX12_signOf_117 rfl rfl ?_
                refine zr_goto (pc' := 151) dX12_signOf_119 rfl ?_
                exact zr_ireturn dX12_signOf_151 rfl rfl trivial (Nat.le_refl _) (Nat.le_refl _) (And.intro rfl h)
            · have h := h.2.2 hc
              refine zr_bipush (pc' := 108) dX12_signOf_106 rfl rfl ?_
              refine zr_goto (pc' := 151) dX12_signOf_108 rfl ?_
              exact zr_ireturn dX12_signOf_151 rfl rfl trivial (Nat.le_refl _) (Nat.le_refl _) (And.intro rfl h)
          · have h := h.2.2 hc
            refine zr_bipush (pc' := 97) dX12_signOf_95 rfl rfl ?_
            refine zr_goto (pc' := 151) dX12_signOf_97 rfl ?_
            exact zr_ireturn dX12_signOf_151 rfl rfl trivial (Nat.le_refl _) (Nat.le_refl _) (And.intro rfl h)
        · have h := h.2.2 hc
          refine zr_bipush (pc' := 86) dX12_signOf_84 rfl rfl ?_
          refine zr_goto (pc' := 151) dX12_signOf_86 rfl ?_
          exact zr_ireturn dX12_signOf_151 rfl rfl trivial (Nat.le_refl _) (Nat.le_refl _) (And.intro rfl h)
      · have h := h.2.2 hc
        refine zr_iconst (pc' := 75) dX12_signOf_74 rfl ?_
        refine zr_goto (pc' := 151) dX12_signOf_75 rfl ?_
        exact zr_ireturn dX12_signOf_151 rfl rfl trivial (Nat.le_refl _) (Nat.le_refl _) (And.intro rfl h)
    · have h := h.2.2 hc
      refine zr_aload_n (pc' := 49) (i := 0) dX12_signOf_48 rfl rfl rfl ?_
      refine zr_aload_n (pc' := 50) (i := 0) dX12_signOf_49 rfl rfl rfl ?_
      refine zr_get (pc' := 53) dX12_signOf_50 rfl ps_102 kd_102 fl_X12_247 kc_12 (gv_102_18 _) ?_
      refine zr_bipush (pc' := 55) dX12_signOf_53 rfl rfl ?_
      refine zn_callV (pc' := 58) (args := [.inl (M 102 18), .inl 61]) (st := []) (st' := fun r1 => [.inl r1]) dX12_signOf_55 rfl cv_X12_250 ⟨rfl, rfl, by decide, by decide⟩ rfl ps_102 kd_102 rfl rfl (Nat.le_of_ble_eq_true rfl) (fun _ => rfl) h ?_
      intro r1 M2 h
      refine zr_if_eq (tgt := 65) (pc' := 61) dX12_signOf_58 rfl rfl h.1 (fun hc => ?_) (fun hc => ?_)
      · have h := h.2.1 hc
        refine zr_bipush (pc' := 67) dX12_signOf_65 rfl rfl ?_
        exact zr_ireturn dX12_signOf_67 rfl rfl trivial (Nat.le_refl _) (Nat.le_refl _) (And.intro rfl h)
      · have h := h.2.2 hc
        refine zr_iconst (pc' := 62) dX12_signOf_61 rfl ?_
        refine zr_goto (pc' := 67) dX12_signOf_62 rfl ?_
        exact zr_ireturn dX12_signOf_67 rfl rfl trivial (Nat.le_refl _) (Nat.le_refl _) (And.intro rfl h)
  · have h := h.2.2 hc
    refine zr_aload_n (pc' := 7) (i := 0) dX12_signOf_6 rfl rfl rfl ?_
    refine zr_aload_n (pc' := 8) (i := 0) dX12_signOf_7 rfl rfl rfl ?_
    refine zr_get (pc' := 11) dX12_signOf_8 rfl ps_102 kd_102 fl_X12_247 kc_12 (gv_102_18 _) ?_
    refine zr_bipush (pc' := 13) dX12_signOf_11 rfl rfl ?_
    refine zn_callV (pc' := 16) (args := [.inl (M 102 18), .inl 61]) (st := []) (st' := fun r3 => [.inl r3]) dX12_signOf_13 rfl cv_X12_250 ⟨rfl, rfl, by decide, by decide⟩ rfl ps_102 kd_102 rfl rfl (Nat.le_of_ble_eq_true rfl) (fun _ => rfl) h ?_
    intro r3 M4 h
    refine zr_if_eq (tgt := 23) (pc' := 19) dX12_signOf_16 rfl rfl h.1 (fun hc => ?_) (fun hc => ?_)
    · have h := h.2.1 hc
      refine zr_aload_n (pc' := 24) (i := 0) dX12_signOf_23 rfl rfl rfl ?_
      refine zr_aload_n (pc' := 25) (i := 0) dX12_signOf_24 rfl rfl rfl ?_
      refine zr_get (pc' := 28) dX12_signOf_25 rfl ps_102 kd_102 fl_X12_247 kc_12 (gv_102_18 _) ?_
      refine zr_bipush (pc' := 30) dX12_signOf_28 rfl rfl ?_
      refine zn_callV (pc' := 33) (args := [.inl (M4 102 18), .inl 62]) (st := []) (st' := fun r5 => [.inl r5]) dX12_signOf_30 rfl cv_X12_250 ⟨rfl, rfl, by decide, by decide⟩ rfl ps_102 kd_102 rfl rfl (Nat.le_of_ble_eq_true rfl) (fun _ => rfl) h ?_
      intro r5 M6 h
      refine zr_if_eq (tgt := 40) (pc' := 36) dX12_signOf_33 rfl rfl h.1 (fun hc => ?_) (fun hc => ?_)
      · have h := h.2.1 hc
        refine zr_iconst (pc' := 41) dX12_signOf_40 rfl ?_
        exact zr_ireturn dX12_signOf_41 rfl rfl trivial (Nat.le_refl _) (Nat.le_refl _) (And.intro rfl h)
      · have h := h.2.2 hc
        refine zr_iconst (pc' := 37) dX12_signOf_36 rfl ?_
        refine zr_goto (pc' := 41) dX12_signOf_37 rfl ?_
        exact zr_ireturn dX12_signOf_41 rfl rfl trivial (Nat.le_refl _) (Nat.le_refl _) (And.intro rfl h)
    · have h := h.2.2 hc
      refine zr_iconst (pc' := 20) dX12_signOf_19 rfl ?_
      refine zr_goto (pc' := 41) dX12_signOf_20 rfl ?_
      exact zr_ireturn dX12_signOf_41 rfl rfl trivial (Nat.le_refl _) (Nat.le_refl _) (And.intro rfl h)
set_option maxRecDepth 20000 in
theorem vcX12_take {E : zE} {M : zM} {Q : Int → zM → Prop} (I0 : Nat → zM → Prop) (I90 : Nat → zM → Prop) (I170 : Nat → zM → Prop)
    (h : ((zR (M 102 18) ∧ zR (M 102 17)) ∧ (((M 102 17) ≤ (M 102 18) → (∀ M1, M1 = zup M 102 21 (M 102 18) → ((zR (M1 102 18) ∧ zR (M1 102 17)) ∧ ((¬ (M1 102 18) = (M1 102 17) → (zP E mX12_isSmall [.inr (.inr 102), .inl (M1 102 18)] M1 (fun r2 M3 => ((zR r2) ∧ ((r2 = 0 → (zP E mX12_isDigit [.inr (.inr 102), .inl (M3 102 18)] M3 (fun r4 M5 => ((zR r4) ∧ ((r4 = 0 → (0 ≤ M5 102 18 ∧ M5 102 18 < 500) ∧ (∀ M6, M6 = zup M5 102 18 ((M5 102 18) + 1) → (zP E mX12_signOf [.inr (.inr 102), .inl (M5 103 ((M5 102 18).toNat))] M6 (fun r7 M8 => (∀ M9, M9 = zup M8 102 20 r7 → ((zR (M9 102 20)) ∧ ((0 ≤ (M9 102 20) → (∀ M10, M10 = zup M9 102 19 3 → ((zR (M10 102 20)) ∧ (((M10 102 20) = 2 → (∀ M11, M11 = zup M10 102 18 ((M10 102 18) + 1) → Q 0 M11)) ∧ (¬ (M10 102 20) = 2 → ((zR (M10 102 20)) ∧ (((M10 102 20) = 4 → (∀ M12, M12 = zup M10 102 18 ((M10 102 18) + 1) → Q 0 M12)) ∧ (¬ (M10 102 20) = 4 → ((zR (M10 102 20)) ∧ ((¬ (M10 102 20) = 5 → Q 0 M10) ∧ ((M10 102 20) = 5 → (∀ M13, M13 = zup M10 102 18 ((M10 102 18) + 1) → Q 0 M13)))))))))))) ∧ ((M9 102 20) < 0 → (∀ M14, M14 = zup M9 102 19 4 → ((zR (M14 102 20)) ∧ (((M14 102 20) = 2 → (∀ M15, M15 = zup M14 102 18 ((M14 102 18) + 1) → Q 0 M15)) ∧ (¬ (M14 102 20) = 2 → ((zR (M14 102 20)) ∧ (((M14 102 20) = 4 → (∀ M16, M16 = zup M14 102 18 ((M14 102 18) + 1) → Q 0 M16)) ∧ (¬ (M14 102 20) = 4 → ((zR (M14 102 20)) ∧ ((¬ (M14 102 20) = 5 → Q 0 M14) ∧ ((M14 102 20) = 5 → (∀ M17, M17 = zup M14 102 18 ((M14 102 18) + 1) → Q 0 M17))))))))))))))))))) ∧ (¬ r4 = 0 → (∀ M18, M18 = zup M5 102 19 2 → (∀ M19, M19 = zup M18 102 20 0 → ∃ n', I170 n'  M19)))))))) ∧ (¬ r2 = 0 → ∃ n', I90 n'  M3)))))) ∧ ((M1 102 18) = (M1 102 17) → (∀ M20, M20 = zup M1 102 19 0 → Q 0 M20)))))) ∧ ((M 102 18) < (M 102 17) → (0 ≤ M 102 18 ∧ M 102 18 < 500) ∧ ((zR (M 103 ((M 102 18).toNat))) ∧ (((M 103 ((M 102 18).toNat)) = 10 → (∀ M21, M21 = zup M 102 18 ((M 102 18) + 1) → ∃ n', I0 n'  M21)) ∧ (¬ (M 103 ((M 102 18).toNat)) = 10 → (0 ≤ M 102 18 ∧ M 102 18 < 500) ∧ ((zR (M 103 ((M 102 18).toNat))) ∧ ((¬ (M 103 ((M 102 18).toNat)) = 32 → (∀ M22, M22 = zup M 102 21 (M 102 18) → ((zR (M22 102 18) ∧ zR (M22 102 17)) ∧ ((¬ (M22 102 18) = (M22 102 17) → (zP E mX12_isSmall [.inr (.inr 102), .inl (M22 102 18)] M22 (fun r23 M24 => ((zR r23) ∧ ((r23 = 0 → (zP E mX12_isDigit [.inr (.inr 102), .inl (M24 102 18)] M24 (fun r25 M26 => ((zR r25) ∧ ((r25 = 0 → (0 ≤ M26 102 18 ∧ M26 102 18 < 500) ∧ (∀ M27, M27 = zup M26 102 18 ((M26 102 18) + 1) → (zP E mX12_signOf [.inr (.inr 102), .inl (M26 103 ((M26 102 18).toNat))] M27 (fun r28 M29 => (∀ M30, M30 = zup M29 102 20 r28 → ((zR (M30 102 20)) ∧ ((0 ≤ (M30 102 20) → (∀ M31, M31 = zup M30 102 19 3 → ((zR (M31 102 20)) ∧ (((M31 102 20) = 2 → (∀ M32, M32 = zup M31 102 18 ((M31 102 18) + 1) → Q 0 M32)) ∧ (¬ (M31 102 20) = 2 → ((zR (M31 102 20)) ∧ (((M31 102 20) = 4 → (∀ M33, M33 = zup M31 102 18 ((M31 102 18) + 1) → Q 0 M33)) ∧ (¬ (M31 102 20) = 4 → ((zR (M31 102 20)) ∧ ((¬ (M31 102 20) = 5 → Q 0 M31) ∧ ((M31 102 20) = 5 → (∀ M34, M34 = zup M31 102 18 ((M31 102 18) + 1) → Q 0 M34)))))))))))) ∧ ((M30 102 20) < 0 → (∀ M35, M35 = zup M30 102 19 4 → ((zR (M35 102 20)) ∧ (((M35 102 20) = 2 → (∀ M36, M36 = zup M35 102 18 ((M35 102 18) + 1) → Q 0 M36)) ∧ (¬ (M35 102 20) = 2 → ((zR (M35 102 20)) ∧ (((M35 102 20) = 4 → (∀ M37, M37 = zup M35 102 18 ((M35 102 18) + 1) → Q 0 M37)) ∧ (¬ (M35 102 20) = 4 → ((zR (M35 102 20)) ∧ ((¬ (M35 102 20) = 5 → Q 0 M35) ∧ ((M35 102 20) = 5 → (∀ M38, M38 = zup M35 102 18 ((M35 102 18) + 1) → Q 0 M38))))))))))))))))))) ∧ (¬ r25 = 0 → (∀ M39, M39 = zup M26 102 19 2 → (∀ M40, M40 = zup M39 102 20 0 → ∃ n', I170 n'  M40)))))))) ∧ (¬ r23 = 0 → ∃ n', I90 n'  M24)))))) ∧ ((M22 102 18) = (M22 102 17) → (∀ M41, M41 = zup M22 102 19 0 → Q 0 M41)))))) ∧ ((M 103 ((M 102 18).toNat)) = 32 → (∀ M42, M42 = zup M 102 18 ((M 102 18) + 1) → ∃ n', I0 n'  M42)))))))))))
    (h0 : ∀ (n : Nat) (M : zM), I0 n  M → ((zR (M 102 18) ∧ zR (M 102 17)) ∧ (((M 102 17) ≤ (M 102 18) → (∀ M43, M43 = zup M 102 21 (M 102 18) → ((zR (M43 102 18) ∧ zR (M43 102 17)) ∧ ((¬ (M43 102 18) = (M43 102 17) → (zP E mX12_isSmall [.inr (.inr 102), .inl (M43 102 18)] M43 (fun r44 M45 => ((zR r44) ∧ ((r44 = 0 → (zP E mX12_isDigit [.inr (.inr 102), .inl (M45 102 18)] M45 (fun r46 M47 => ((zR r46) ∧ ((r46 = 0 → (0 ≤ M47 102 18 ∧ M47 102 18 < 500) ∧ (∀ M48, M48 = zup M47 102 18 ((M47 102 18) + 1) → (zP E mX12_signOf [.inr (.inr 102), .inl (M47 103 ((M47 102 18).toNat))] M48 (fun r49 M50 => (∀ M51, M51 = zup M50 102 20 r49 → ((zR (M51 102 20)) ∧ ((0 ≤ (M51 102 20) → (∀ M52, M52 = zup M51 102 19 3 → ((zR (M52 102 20)) ∧ (((M52 102 20) = 2 → (∀ M53, M53 = zup M52 102 18 ((M52 102 18) + 1) → Q 0 M53)) ∧ (¬ (M52 102 20) = 2 → ((zR (M52 102 20)) ∧ (((M52 102 20) = 4 → (∀ M54, M54 = zup M52 102 18 ((M52 102 18) + 1) → Q 0 M54)) ∧ (¬ (M52 102 20) = 4 → ((zR (M52 102 20)) ∧ ((¬ (M52 102 20) = 5 → Q 0 M52) ∧ ((M52 102 20) = 5 → (∀ M55, M55 = zup M52 102 18 ((M52 102 18) + 1) → Q 0 M55)))))))))))) ∧ ((M51 102 20) < 0 → (∀ M56, M56 = zup M51 102 19 4 → ((zR (M56 102 20)) ∧ (((M56 102 20) = 2 → (∀ M57, M57 = zup M56 102 18 ((M56 102 18) + 1) → Q 0 M57)) ∧ (¬ (M56 102 20) = 2 → ((zR (M56 102 20)) ∧ (((M56 102 20) = 4 → (∀ M58, M58 = zup M56 102 18 ((M56 102 18) + 1) → Q 0 M58)) ∧ (¬ (M56 102 20) = 4 → ((zR (M56 102 20)) ∧ ((¬ (M56 102 20) = 5 → Q 0 M56) ∧ ((M56 102 20) = 5 → (∀ M59, M59 = zup M56 102 18 ((M56 102 18) + 1) → Q 0 M59))))))))))))))))))) ∧ (¬ r46 = 0 → (∀ M60, M60 = zup M47 102 19 2 → (∀ M61, M61 = zup M60 102 20 0 → ∃ n', n' < n ∧ I170 n'  M61)))))))) ∧ (¬ r44 = 0 → ∃ n', n' < n ∧ I90 n'  M45)))))) ∧ ((M43 102 18) = (M43 102 17) → (∀ M62, M62 = zup M43 102 19 0 → Q 0 M62)))))) ∧ ((M 102 18) < (M 102 17) → (0 ≤ M 102 18 ∧ M 102 18 < 500) ∧ ((zR (M 103 ((M 102 18).toNat))) ∧ (((M 103 ((M 102 18).toNat)) = 10 → (∀ M63, M63 = zup M 102 18 ((M 102 18) + 1) → ∃ n', n' < n ∧ I0 n'  M63)) ∧ (¬ (M 103 ((M 102 18).toNat)) = 10 → (0 ≤ M 102 18 ∧ M 102 18 < 500) ∧ ((zR (M 103 ((M 102 18).toNat))) ∧ ((¬ (M 103 ((M 102 18).toNat)) = 32 → (∀ M64, M64 = zup M 102 21 (M 102 18) → ((zR (M64 102 18) ∧ zR (M64 102 17)) ∧ ((¬ (M64 102 18) = (M64 102 17) → (zP E mX12_isSmall [.inr (.inr 102), .inl (M64 102 18)] M64 (fun r65 M66 => ((zR r65) ∧ ((r65 = 0 → (zP E mX12_isDigit [.inr (.inr 102), .inl (M66 102 18)] M66 (fun r67 M68 => ((zR r67) ∧ ((r67 = 0 → (0 ≤ M68 102 18 ∧ M68 102 18 < 500) ∧ (∀ M69, M69 = zup M68 102 18 ((M68 102 18) + 1) → (zP E mX12_signOf [.inr (.inr 102), .inl (M68 103 ((M68 102 18).toNat))] M69 (fun r70 M71 => (∀ M72, M72 = zup M71 102 20 r70 → ((zR (M72 102 20)) ∧ ((0 ≤ (M72 102 20) → (∀ M73, M73 = zup M72 102 19 3 → ((zR (M73 102 20)) ∧ (((M73 102 20) = 2 → (∀ M74, M74 = zup M73 102 18 ((M73 102 18) + 1) → Q 0 M74)) ∧ (¬ (M73 102 20) = 2 → ((zR (M73 102 20)) ∧ (((M73 102 20) = 4 → (∀ M75, M75 = zup M73 102 18 ((M73 102 18) + 1) → Q 0 M75)) ∧ (¬ (M73 102 20) = 4 → ((zR (M73 102 20)) ∧ ((¬ (M73 102 20) = 5 → Q 0 M73) ∧ ((M73 102 20) = 5 → (∀ M76, M76 = zup M73 102 18 ((M73 102 18) + 1) → Q 0 M76)))))))))))) ∧ ((M72 102 20) < 0 → (∀ M77, M77 = zup M72 102 19 4 → ((zR (M77 102 20)) ∧ (((M77 102 20) = 2 → (∀ M78, M78 = zup M77 102 18 ((M77 102 18) + 1) → Q 0 M78)) ∧ (¬ (M77 102 20) = 2 → ((zR (M77 102 20)) ∧ (((M77 102 20) = 4 → (∀ M79, M79 = zup M77 102 18 ((M77 102 18) + 1) → Q 0 M79)) ∧ (¬ (M77 102 20) = 4 → ((zR (M77 102 20)) ∧ ((¬ (M77 102 20) = 5 → Q 0 M77) ∧ ((M77 102 20) = 5 → (∀ M80, M80 = zup M77 102 18 ((M77 102 18) + 1) → Q 0 M80))))))))))))))))))) ∧ (¬ r67 = 0 → (∀ M81, M81 = zup M68 102 19 2 → (∀ M82, M82 = zup M81 102 20 0 → ∃ n', n' < n ∧ I170 n'  M82)))))))) ∧ (¬ r65 = 0 → ∃ n', n' < n ∧ I90 n'  M66)))))) ∧ ((M64 102 18) = (M64 102 17) → (∀ M83, M83 = zup M64 102 19 0 → Q 0 M83)))))) ∧ ((M 103 ((M 102 18).toNat)) = 32 → (∀ M84, M84 = zup M 102 18 ((M 102 18) + 1) → ∃ n', n' < n ∧ I0 n'  M84)))))))))))
    (h90 : ∀ (n : Nat) (M : zM), I90 n  M → (zP E mX12_isSmall [.inr (.inr 102), .inl (M 102 18)] M (fun r85 M86 => ((zR r85) ∧ ((r85 = 0 → (zP E mX12_wordAt [.inr (.inr 102), .inl (M86 102 21), .inl (M86 102 18)] M86 (fun r87 M88 => (∀ M89, M89 = zup M88 102 20 r87 → ((zR (M89 102 20)) ∧ ((0 ≤ (M89 102 20) → (∀ M90, M90 = zup M89 102 19 1 → Q 0 M90)) ∧ ((M89 102 20) < 0 → (∀ M91, M91 = zup M89 102 19 4 → Q 0 M91)))))))) ∧ (¬ r85 = 0 → (∀ M92, M92 = zup M86 102 18 ((M86 102 18) + 1) → ∃ n', n' < n ∧ I90 n'  M92)))))))
    (h170 : ∀ (n : Nat) (M : zM), I170 n  M → (zP E mX12_isDigit [.inr (.inr 102), .inl (M 102 18)] M (fun r93 M94 => ((zR r93) ∧ ((r93 = 0 → Q 0 M94) ∧ (¬ r93 = 0 → ((zR (M94 102 20)) ∧ (((M94 102 20) ≤ 99999 → (0 ≤ M94 102 18 ∧ M94 102 18 < 500) ∧ (∀ M95, M95 = zup M94 102 20 (((10 * (M94 102 20)) + (M94 103 ((M94 102 18).toNat))) - 48) → (∀ M96, M96 = zup M95 102 18 ((M95 102 18) + 1) → ∃ n', n' < n ∧ I170 n'  M96))) ∧ (99999 < (M94 102 20) → (∀ M97, M97 = zup M94 102 20 (M94 102 20) → (∀ M98, M98 = zup M97 102 18 ((M97 102 18) + 1) → ∃ n', n' < n ∧ I170 n'  M98)))))))))))
    : zP E mX12_take [.inr (.inr 102)] M Q := by
  have key : ∀ n : Nat, (∀ (M : zM), I0 n  M → zA E zNN (0, 0) mX12_take 0 [(0, .inr (.inr 102))] [] M (zQ Q)) ∧ (∀ (M : zM), I90 n  M → zA E zNN (0, 0) mX12_take 90 [(0, .inr (.inr 102))] [] M (zQ Q)) ∧ (∀ (M : zM), I170 n  M → zA E zNN (0, 0) mX12_take 170 [(0, .inr (.inr 102))] [] M (zQ Q)) := by
    intro n
    induction n using Nat.strongRecOn with
    | ind n ih =>
      refine ⟨?_, ?_, ?_⟩
      · intro  M h
        have h := h0 n  M h
        refine zr_aload_n (pc' := 1) (i := 0) dX12_take_0 rfl rfl rfl ?_
        refine zr_get (pc' := 4) dX12_take_1 rfl ps_102 kd_102 fl_X12_247 kc_12 (gv_102_18 _) ?_
        refine zr_aload_n (pc' := 5) (i := 0) dX12_take_4 rfl rfl rfl ?_
        refine zr_get (pc' := 8) dX12_take_5 rfl ps_102 kd_102 fl_X12_244 kc_12 (gv_102_17 _) ?_
        refine zr_icmp_ge (tgt := 52) (pc' := 11) dX12_take_8 rfl rfl h.1.1 h.1.2 (fun hc => ?_) (fun hc => ?_)
        · have h := h.2.1 hc
          refine zr_aload_n (pc' := 53) (i := 0) dX12_take_52 rfl rfl rfl ?_
          refine zr_aload_n (pc' := 54) (i := 0) dX12_take_53 rfl rfl rfl ?_
          refine zr_get (pc' := 57) dX12_take_54 rfl ps_102 kd_102 fl_X12_247 kc_12 (gv_102_18 _) ?_
          refine zr_put (pc' := 60) dX12_take_57 rfl ps_102 kd_102 fl_X12_241 kc_12 rfl nf_102_21 rfl trivial (fun M43 hM1 => ?_)
          have h := h M43 hM1
          refine zr_aload_n (pc' := 61) (i := 0) dX12_take_60 rfl rfl rfl ?_
          refine zr_get (pc' := 64) dX12_take_61 rfl ps_102 kd_102 fl_X12_247 kc_12 (gv_102_18 _) ?_
          refine zr_aload_n (pc' := 65) (i := 0) dX12_take_64 rfl rfl rfl ?_
          refine zr_get (pc' := 68) dX12_take_65 rfl ps_102 kd_102 fl_X12_244 kc_12 (gv_102_17 _) ?_
          refine zr_icmp_ne (tgt := 79) (pc' := 71) dX12_take_68 rfl rfl h.1.1 h.1.2 (fun hc => ?_) (fun hc => ?_)
          · have h := h.2.1 hc
            refine zr_aload_n (pc' := 80) (i := 0) dX12_take_79 rfl rfl rfl ?_
            refine zr_aload_n (pc' := 81) (i := 0) dX12_take_80 rfl rfl rfl ?_
            refine zr_get (pc' := 84) dX12_take_81 rfl ps_102 kd_102 fl_X12_247 kc_12 (gv_102_18 _) ?_
            refine zn_callV (pc' := 87) (args := [.inl (M43 102 18)]) (st := []) (st' := fun r44 => [.inl r44]) dX12_take_84 rfl cv_X12_257 ⟨rfl, rfl, by decide, by decide⟩ rfl ps_102 kd_102 rfl rfl (Nat.le_of_ble_eq_true rfl) (fun _ => rfl) h ?_
            intro r44 M45 h
            refine zr_if_eq (tgt := 149) (pc' := 90) dX12_take_87 rfl rfl h.1 (fun hc => ?_) (fun hc => ?_)
            · have h := h.2.1 hc
              refine zr_aload_n (pc' := 150) (i := 0) dX12_take_149 rfl rfl rfl ?_
              refine zr_aload_n (pc' := 151) (i := 0) dX12_take_150 rfl rfl rfl ?_
              refine zr_get (pc' := 154) dX12_take_151 rfl ps_102 kd_102 fl_X12_247 kc_12 (gv_102_18 _) ?_
              refine zn_callV (pc' := 157) (args := [.inl (M45 102 18)]) (st := []) (st' := fun r46 => [.inl r46]) dX12_take_154 rfl cv_X12_267 ⟨rfl, rfl, by decide, by decide⟩ rfl ps_102 kd_102 rfl rfl (Nat.le_of_ble_eq_true rfl) (fun _ => rfl) h ?_
              intro r46 M47 h
              refine zr_if_eq (tgt := 235) (pc' := 160) dX12_take_157 rfl rfl h.1 (fun hc => ?_) (fun hc => ?_)
              · have h := h.2.1 hc
                refine zr_aload_n (pc' := 236) (i := 0) dX12_take_235 rfl rfl rfl ?_
                refine zr_get (pc' := 239) dX12_take_236 rfl ps_102 kd_102 fl_X12_7 kc_12 (gv_102_0 _) ?_
                refine zr_aload_n (pc' := 240) (i := 0) dX12_take_239 rfl rfl rfl ?_
                refine zr_get (pc' := 243) dX12_take_240 rfl ps_102 kd_102 fl_X12_247 kc_12 (gv_102_18 _) ?_
                refine zr_iald (pc' := 244) dX12_take_243 rfl ps_103 kd_103 (by decide) h.1.1 h.1.2 ?_
                have h := h.2
                refine zr_istore_n (pc' := 245) (i := 1) (al' := [(1, .inl (M47 103 ((M47 102 18).toNat))), (0, .inr (.inr 102))]) dX12_take_244 rfl rfl (by decide) rfl ?_
                refine zr_aload_n (pc' := 246) (i := 0) dX12_take_245 rfl rfl rfl ?_
                refine zr_dup (pc' := 247) dX12_take_246 rfl rfl ?_
                refine zr_get (pc' := 250) dX12_take_247 rfl ps_102 kd_102 fl_X12_247 kc_12 (gv_102_18 _) ?_
                refine zr_iconst (pc' := 251) dX12_take_250 rfl ?_
                refine zr_iadd (pc' := 252) dX12_take_251 rfl ?_
                refine zr_put (pc' := 255) dX12_take_252 rfl ps_102 kd_102 fl_X12_247 kc_12 rfl nf_102_18 rfl trivial (fun M48 hM1 => ?_)
                have h := h M48 hM1
                refine zr_aload_n (pc' := 256) (i := 0) dX12_take_255 rfl rfl rfl ?_
                refine zr_aload_n (pc' := 257) (i := 0) dX12_take_256 rfl rfl rfl ?_
                refine zr_iload_n (pc' := 258) (i := 1) dX12_take_257 rfl rfl rfl ?_
                refine zn_callV (pc' := 261) (args := [.inl (M47 103 ((M47 102 18).toNat))]) (st := [.inr (.inr 102)]) (st' := fun r49 => [.inl r49, .inr (.inr 102)]) dX12_take_258 rfl cv_X12_271 ⟨rfl, rfl, by decide, by decide⟩ rfl ps_102 kd_102 rfl rfl (Nat.le_of_ble_eq_true rfl) (fun _ => rfl) h ?_
                intro r49 M50 h
                refine zr_put (pc' := 264) dX12_take_261 rfl ps_102 kd_102 fl_X12_264 kc_12 rfl nf_102_20 rfl trivial (fun M51 hM1 => ?_)
                have h := h M51 hM1
                refine zr_aload_n (pc' := 265) (i := 0) dX12_take_264 rfl rfl rfl ?_
                refine zr_aload_n (pc' := 266) (i := 0) dX12_take_265 rfl rfl rfl ?_
                refine zr_get (pc' := 269) dX12_take_266 rfl ps_102 kd_102 fl_X12_264 kc_12 (gv_102_20 _) ?_
                refine zr_if_ge (tgt := 276) (pc' := 272) dX12_take_269 rfl rfl h.1 (fun hc => ?_) (fun hc => ?_)
                · have h := h.2.1 hc
                  refine zr_iconst (pc' := 277) dX12_take_276 rfl ?_
                  refine zr_put (pc' := 280) dX12_take_277 rfl ps_102 kd_102 fl_X12_254 kc_12 rfl nf_102_19 rfl trivial (fun M52 hM1 => ?_)
                  have h := h M52 hM1
                  refine zr_aload_n (pc' := 281) (i := 0) dX12_take_280 rfl rfl rfl ?_
                  refine zr_get (pc' := 284) dX12_take_281 rfl ps_102 kd_102 fl_X12_264 kc_12 (gv_102_20 _) ?_
                  refine zr_iconst (pc' := 285) dX12_take_284 rfl ?_
                  refine zr_icmp_eq (tgt := 304) (pc' := 288) dX12_take_285 rfl rfl h.1 (zRd rfl) (fun hc => ?_) (fun hc => ?_)
                  · have h := h.2.1 hc
                    refine zr_aload_n (pc' := 305) (i := 0) dX12_take_304 rfl rfl rfl ?_
                    refine zr_dup (pc' := 306) dX12_take_305 rfl rfl ?_
                    refine zr_get (pc' := 309) dX12_take_306 rfl ps_102 kd_102 fl_X12_247 kc_12 (gv_102_18 _) ?_
                    refine zr_iconst (pc' := 310) dX12_take_309 rfl ?_
                    refine zr_iadd (pc' := 311) dX12_take_310 rfl ?_
                    refine zr_put (pc' := 314) dX12_take_311 rfl ps_102 kd_102 fl_X12_247 kc_12 rfl nf_102_18 rfl trivial (fun M53 hM1 => ?_)
                    have h := h M53 hM1
                    exact zr_return (x := 0) dX12_take_314 rfl (Nat.le_refl _) (Nat.le_refl _) (And.intro rfl h)
                  · have h := h.2.2 hc
                    refine zr_aload_n (pc' := 289) (i := 0) dX12_take_288 rfl rfl rfl ?_
                    refine zr_get (pc' := 292) dX12_take_289 rfl ps_102 kd_102 fl_X12_264 kc_12 (gv_102_20 _) ?_
                    refine zr_iconst (pc' := 293) dX12_take_292 rfl ?_
                    refine zr_icmp_eq (tgt := 304) (pc' := 296) dX12_take_293 rfl rfl h.1 (zRd rfl) (fun hc => ?_) (fun hc => ?_)
                    · have h := h.2.1 hc
                      refine zr_aload_n (pc' := 305) (i := 0) dX12_take_304 rfl rfl rfl ?_
                      refine zr_dup (pc' := 306) dX12_take_305 rfl rfl ?_
                      refine zr_get (pc' := 309) dX12_take_306 rfl ps_102 kd_102 fl_X12_247 kc_12 (gv_102_18 _) ?_
                      refine zr_iconst (pc' := 310) dX12_take_309 rfl ?_
                      refine zr_iadd (pc' := 311) dX12_take_310 rfl ?_
                      refine zr_put (pc' := 314) dX12_take_311 rfl ps_102 kd_102 fl_X12_247 kc_12 rfl nf_102_18 rfl trivial (fun M54 hM1 => ?_)
                      have h := h M54 hM1
                      exact zr_return (x := 0) dX12_take_314 rfl (Nat.le_refl _) (Nat.le_refl _) (And.intro rfl h)
                    · have h := h.2.2 hc
                      refine zr_aload_n (pc' := 297) (i := 0) dX12_take_296 rfl rfl rfl ?_
                      refine zr_get (pc' := 300) dX12_take_297 rfl ps_102 kd_102 fl_X12_264 kc_12 (gv_102_20 _) ?_
                      refine zr_iconst (pc' := 301) dX12_take_300 rfl ?_
                      refine zr_icmp_ne (tgt := 314) (pc' := 304) dX12_take_301 rfl rfl h.1 (zRd rfl) (fun hc => ?_) (fun hc => ?_)
                      · have h := h.2.1 hc
                        exact zr_return (x := 0) dX12_take_314 rfl (Nat.le_refl _) (Nat.le_refl _) (And.intro rfl h)
                      · have h := h.2.2 hc
                        refine zr_aload_n (pc' := 305) (i := 0) dX12_take_304 rfl rfl rfl ?_
                        refine zr_dup (pc' := 306) dX12_take_305 rfl rfl ?_
                        refine zr_get (pc' := 309) dX12_take_306 rfl ps_102 kd_102 fl_X12_247 kc_12 (gv_102_18 _) ?_
                        refine zr_iconst (pc' := 310) dX12_take_309 rfl ?_
                        refine zr_iadd (pc' := 311) dX12_take_310 rfl ?_
                        refine zr_put (pc' := 314) dX12_take_311 rfl ps_102 kd_102 fl_X12_247 kc_12 rfl nf_102_18 rfl trivial (fun M55 hM1 => ?_)
                        have h := h M55 hM1
                        exact zr_return (x := 0) dX12_take_314 rfl (Nat.le_refl _) (Nat.le_refl _) (And.intro rfl h)
                · have h := h.2.2 hc
                  refine zr_iconst (pc' := 273) dX12_take_272 rfl ?_
                  refine zr_goto (pc' := 277) dX12_take_273 rfl ?_
                  refine zr_put (pc' := 280) dX12_take_277 rfl ps_102 kd_102 fl_X12_254 kc_12 rfl nf_102_19 rfl trivial (fun M56 hM1 => ?_)
                  have h := h M56 hM1
                  refine zr_aload_n (pc' := 281) (i := 0) dX12_take_280 rfl rfl rfl ?_
                  refine zr_get (pc' := 284) dX12_take_281 rfl ps_102 kd_102 fl_X12_264 kc_12 (gv_102_20 _) ?_
                  refine zr_iconst (pc' := 285) dX12_take_284 rfl ?_
                  refine zr_icmp_eq (tgt := 304) (pc' := 288) dX12_take_285 rfl rfl h.1 (zRd rfl) (fun hc => ?_) (fun hc => ?_)
                  · have h := h.2.1 hc
                    refine zr_aload_n (pc' := 305) (i := 0) dX12_take_304 rfl rfl rfl ?_
                    refine zr_dup (pc' := 306) dX12_take_305 rfl rfl ?_
                    refine zr_get (pc' := 309) dX12_take_306 rfl ps_102 kd_102 fl_X12_247 kc_12 (gv_102_18 _) ?_
                    refine zr_iconst (pc' := 310) dX12_take_309 rfl ?_
                    refine zr_iadd (pc' := 311) dX12_take_310 rfl ?_
                    refine zr_put (pc' := 314) dX12_take_311 rfl ps_102 kd_102 fl_X12_247 kc_12 rfl nf_102_18 rfl trivial (fun M57 hM1 => ?_)
                    have h := h M57 hM1
                    exact zr_return (x := 0) dX12_take_314 rfl (Nat.le_refl _) (Nat.le_refl _) (And.intro rfl h)
                  · have h := h.2.2 hc
                    refine zr_aload_n (pc' := 289) (i := 0) dX12_take_288 rfl rfl rfl ?_
                    refine zr_get (pc' := 292) dX12_take_289 rfl ps_102 kd_102 fl_X12_264 kc_12 (gv_102_20 _) ?_
                    refine zr_iconst (pc' := 293) dX12_take_292 rfl ?_
                    refine zr_icmp_eq (tgt := 304) (pc' := 296) dX12_take_293 rfl rfl h.1 (zRd rfl) (fun hc => ?_) (fun hc => ?_)
                    · have h := h.2.1 hc
                      refine zr_aload_n (pc' := 305) (i := 0) dX12_take_304 rfl rfl rfl ?_
                      refine zr_dup (pc' := 306) dX12_take_305 rfl rfl ?_
                      refine zr_get (pc' := 309) dX12_take_306 rfl ps_102 kd_102 fl_X12_247 kc_12 (gv_102_18 _) ?_
                      refine zr_iconst (pc' := 310) dX12_take_309 rfl ?_
                      refine zr_iadd (pc' := 311) dX12_take_310 rfl ?_
                      refine zr_put (pc' := 314) dX12_take_311 rfl ps_102 kd_102 fl_X12_247 kc_12 rfl nf_102_18 rfl trivial (fun M58 hM1 => ?_)
                      have h := h M58 hM1
                      exact zr_return (x := 0) dX12_take_314 rfl (Nat.le_refl _) (Nat.le_refl _) (And.intro rfl h)
                    · have h := h.2.2 hc
                      refine zr_aload_n (pc' := 297) (i := 0) dX12_take_296 rfl rfl rfl ?_
                      refine zr_get (pc' := 300) dX12_take_297 rfl ps_102 kd_102 fl_X12_264 kc_12 (gv_102_20 _) ?_
                      refine zr_iconst (pc' := 301) dX12_take_300 rfl ?_
                      refine zr_icmp_ne (tgt := 314) (pc' := 304) dX12_take_301 rfl rfl h.1 (zRd rfl) (fun hc => ?_) (fun hc => ?_)
                      · have h := h.2.1 hc
                        exact zr_return (x := 0) dX12_take_314 rfl (Nat.le_refl _) (Nat.le_refl _) (And.intro rfl h)
                      · have h := h.2.2 hc
                        refine zr_aload_n (pc' := 305) (i := 0) dX12_take_304 rfl rfl rfl ?_
                        refine zr_dup (pc' := 306) dX12_take_305 rfl rfl ?_
                        refine zr_get (pc' := 309) dX12_take_306 rfl ps_102 kd_102 fl_X12_247 kc_12 (gv_102_18 _) ?_
                        refine zr_iconst (pc' := 310) dX12_take_309 rfl ?_
                        refine zr_iadd (pc' := 311) dX12_take_310 rfl ?_
                        refine zr_put (pc' := 314) dX12_take_311 rfl ps_102 kd_102 fl_X12_247 kc_12 rfl nf_102_18 rfl trivial (fun M59 hM1 => ?_)
                        have h := h M59 hM1
                        exact zr_return (x := 0) dX12_take_314 rfl (Nat.le_refl _) (Nat.le_refl _) (And.intro rfl h)
              · have h := h.2.2 hc
                refine zr_aload_n (pc' := 161) (i := 0) dX12_take_160 rfl rfl rfl ?_
                refine zr_iconst (pc' := 162) dX12_take_161 rfl ?_
                refine zr_put (pc' := 165) dX12_take_162 rfl ps_102 kd_102 fl_X12_254 kc_12 rfl nf_102_19 rfl trivial (fun M60 hM1 => ?_)
                have h := h M60 hM1
                refine zr_aload_n (pc' := 166) (i := 0) dX12_take_165 rfl rfl rfl ?_
                refine zr_iconst (pc' := 167) dX12_take_166 rfl ?_
                refine zr_put (pc' := 170) dX12_take_167 rfl ps_102 kd_102 fl_X12_264 kc_12 rfl nf_102_20 rfl trivial (fun M61 hM1 => ?_)
                have h := h M61 hM1
                obtain ⟨n', hn, h⟩ := h
                exact zn_al ((ih n' hn).2.2  _ h) ⟨rfl, trivial⟩
            · have h := h.2.2 hc
              obtain ⟨n', hn, h⟩ := h
              exact zn_al ((ih n' hn).2.1  _ h) ⟨rfl, trivial⟩
          · have h := h.2.2 hc
            refine zr_aload_n (pc' := 72) (i := 0) dX12_take_71 rfl rfl rfl ?_
            refine zr_iconst (pc' := 73) dX12_take_72 rfl ?_
            refine zr_put (pc' := 76) dX12_take_73 rfl ps_102 kd_102 fl_X12_254 kc_12 rfl nf_102_19 rfl trivial (fun M62 hM1 => ?_)
            have h := h M62 hM1
            refine zr_goto (pc' := 314) dX12_take_76 rfl ?_
            exact zr_return (x := 0) dX12_take_314 rfl (Nat.le_refl _) (Nat.le_refl _) (And.intro rfl h)
        · have h := h.2.2 hc
          refine zr_aload_n (pc' := 12) (i := 0) dX12_take_11 rfl rfl rfl ?_
          refine zr_get (pc' := 15) dX12_take_12 rfl ps_102 kd_102 fl_X12_7 kc_12 (gv_102_0 _) ?_
          refine zr_aload_n (pc' := 16) (i := 0) dX12_take_15 rfl rfl rfl ?_
          refine zr_get (pc' := 19) dX12_take_16 rfl ps_102 kd_102 fl_X12_247 kc_12 (gv_102_18 _) ?_
          refine zr_iald (pc' := 20) dX12_take_19 rfl ps_103 kd_103 (by decide) h.1.1 h.1.2 ?_
          have h := h.2
          refine zr_bipush (pc' := 22) dX12_take_20 rfl rfl ?_
          refine zr_icmp_eq (tgt := 39) (pc' := 25) dX12_take_22 rfl rfl h.1 (zRd rfl) (fun hc => ?_) (fun hc => ?_)
          · have h := h.2.1 hc
            refine zr_aload_n (pc' := 40) (i := 0) dX12_take_39 rfl rfl rfl ?_
            refine zr_dup (pc' := 41) dX12_take_40 rfl rfl ?_
            refine zr_get (pc' := 44) dX12_take_41 rfl ps_102 kd_102 fl_X12_247 kc_12 (gv_102_18 _) ?_
            refine zr_iconst (pc' := 45) dX12_take_44 rfl ?_
            refine zr_iadd (pc' := 46) dX12_take_45 rfl ?_
            refine zr_put (pc' := 49) dX12_take_46 rfl ps_102 kd_102 fl_X12_247 kc_12 rfl nf_102_18 rfl trivial (fun M63 hM1 => ?_)
            have h := h M63 hM1
            refine zr_goto (pc' := 0) dX12_take_49 rfl ?_
            obtain ⟨n', hn, h⟩ := h
            exact zn_al ((ih n' hn).1  _ h) ⟨rfl, trivial⟩
          · have h := h.2.2 hc
            refine zr_aload_n (pc' := 26) (i := 0) dX12_take_25 rfl rfl rfl ?_
            refine zr_get (pc' := 29) dX12_take_26 rfl ps_102 kd_102 fl_X12_7 kc_12 (gv_102_0 _) ?_
            refine zr_aload_n (pc' := 30) (i := 0) dX12_take_29 rfl rfl rfl ?_
            refine zr_get (pc' := 33) dX12_take_30 rfl ps_102 kd_102 fl_X12_247 kc_12 (gv_102_18 _) ?_
            refine zr_iald (pc' := 34) dX12_take_33 rfl ps_103 kd_103 (by decide) h.1.1 h.1.2 ?_
            have h := h.2
            refine zr_bipush (pc' := 36) dX12_take_34 rfl rfl ?_
            refine zr_icmp_ne (tgt := 52) (pc' := 39) dX12_take_36 rfl rfl h.1 (zRd rfl) (fun hc => ?_) (fun hc => ?_)
            · have h := h.2.1 hc
              refine zr_aload_n (pc' := 53) (i := 0) dX12_take_52 rfl rfl rfl ?_
              refine zr_aload_n (pc' := 54) (i := 0) dX12_take_53 rfl rfl rfl ?_
              refine zr_get (pc' := 57) dX12_take_54 rfl ps_102 kd_102 fl_X12_247 kc_12 (gv_102_18 _) ?_
              refine zr_put (pc' := 60) dX12_take_57 rfl ps_102 kd_102 fl_X12_241 kc_12 rfl nf_102_21 rfl trivial (fun M64 hM1 => ?_)
              have h := h M64 hM1
              refine zr_aload_n (pc' := 61) (i := 0) dX12_take_60 rfl rfl rfl ?_
              refine zr_get (pc' := 64) dX12_take_61 rfl ps_102 kd_102 fl_X12_247 kc_12 (gv_102_18 _) ?_
              refine zr_aload_n (pc' := 65) (i := 0) dX12_take_64 rfl rfl rfl ?_
              refine zr_get (pc' := 68) dX12_take_65 rfl ps_102 kd_102 fl_X12_244 kc_12 (gv_102_17 _) ?_
              refine zr_icmp_ne (tgt := 79) (pc' := 71) dX12_take_68 rfl rfl h.1.1 h.1.2 (fun hc => ?_) (fun hc => ?_)
              · have h := h.2.1 hc
                refine zr_aload_n (pc' := 80) (i := 0) dX12_take_79 rfl rfl rfl ?_
                refine zr_aload_n (pc' := 81) (i := 0) dX12_take_80 rfl rfl rfl ?_
                refine zr_get (pc' := 84) dX12_take_81 rfl ps_102 kd_102 fl_X12_247 kc_12 (gv_102_18 _) ?_
                refine zn_callV (pc' := 87) (args := [.inl (M64 102 18)]) (st := []) (st' := fun r65 => [.inl r65]) dX12_take_84 rfl cv_X12_257 ⟨rfl, rfl, by decide, by decide⟩ rfl ps_102 kd_102 rfl rfl (Nat.le_of_ble_eq_true rfl) (fun _ => rfl) h ?_
                intro r65 M66 h
                refine zr_if_eq (tgt := 149) (pc' := 90) dX12_take_87 rfl rfl h.1 (fun hc => ?_) (fun hc => ?_)
                · have h := h.2.1 hc
                  refine zr_aload_n (pc' := 150) (i := 0) dX12_take_149 rfl rfl rfl ?_
                  refine zr_aload_n (pc' := 151) (i := 0) dX12_take_150 rfl rfl rfl ?_
                  refine zr_get (pc' := 154) dX12_take_151 rfl ps_102 kd_102 fl_X12_247 kc_12 (gv_102_18 _) ?_
                  refine zn_callV (pc' := 157) (args := [.inl (M66 102 18)]) (st := []) (st' := fun r67 => [.inl r67]) dX12_take_154 rfl cv_X12_267 ⟨rfl, rfl, by decide, by decide⟩ rfl ps_102 kd_102 rfl rfl (Nat.le_of_ble_eq_true rfl) (fun _ => rfl) h ?_
                  intro r67 M68 h
                  refine zr_if_eq (tgt := 235) (pc' := 160) dX12_take_157 rfl rfl h.1 (fun hc => ?_) (fun hc => ?_)
                  · have h := h.2.1 hc
                    refine zr_aload_n (pc' := 236) (i := 0) dX12_take_235 rfl rfl rfl ?_
                    refine zr_get (pc' := 239) dX12_take_236 rfl ps_102 kd_102 fl_X12_7 kc_12 (gv_102_0 _) ?_
                    refine zr_aload_n (pc' := 240) (i := 0) dX12_take_239 rfl rfl rfl ?_
                    refine zr_get (pc' := 243) dX12_take_240 rfl ps_102 kd_102 fl_X12_247 kc_12 (gv_102_18 _) ?_
                    refine zr_iald (pc' := 244) dX12_take_243 rfl ps_103 kd_103 (by decide) h.1.1 h.1.2 ?_
                    have h := h.2
                    refine zr_istore_n (pc' := 245) (i := 1) (al' := [(1, .inl (M68 103 ((M68 102 18).toNat))), (0, .inr (.inr 102))]) dX12_take_244 rfl rfl (by decide) rfl ?_
                    refine zr_aload_n (pc' := 246) (i := 0) dX12_take_245 rfl rfl rfl ?_
                    refine zr_dup (pc' := 247) dX12_take_246 rfl rfl ?_
                    refine zr_get (pc' := 250) dX12_take_247 rfl ps_102 kd_102 fl_X12_247 kc_12 (gv_102_18 _) ?_
                    refine zr_iconst (pc' := 251) dX12_take_250 rfl ?_
                    refine zr_iadd (pc' := 252) dX12_take_251 rfl ?_
                    refine zr_put (pc' := 255) dX12_take_252 rfl ps_102 kd_102 fl_X12_247 kc_12 rfl nf_102_18 rfl trivial (fun M69 hM1 => ?_)
                    have h := h M69 hM1
                    refine zr_aload_n (pc' := 256) (i := 0) dX12_take_255 rfl rfl rfl ?_
                    refine zr_aload_n (pc' := 257) (i := 0) dX12_take_256 rfl rfl rfl ?_
                    refine zr_iload_n (pc' := 258) (i := 1) dX12_take_257 rfl rfl rfl ?_
                    refine zn_callV (pc' := 261) (args := [.inl (M68 103 ((M68 102 18).toNat))]) (st := [.inr (.inr 102)]) (st' := fun r70 => [.inl r70, .inr (.inr 102)]) dX12_take_258 rfl cv_X12_271 ⟨rfl, rfl, by decide, by decide⟩ rfl ps_102 kd_102 rfl rfl (Nat.le_of_ble_eq_true rfl) (fun _ => rfl) h ?_
                    intro r70 M71 h
                    refine zr_put (pc' := 264) dX12_take_261 rfl ps_102 kd_102 fl_X12_264 kc_12 rfl nf_102_20 rfl trivial (fun M72 hM1 => ?_)
                    have h := h M72 hM1
                    refine zr_aload_n (pc' := 265) (i := 0) dX12_take_264 rfl rfl rfl ?_
                    refine zr_aload_n (pc' := 266) (i := 0) dX12_take_265 rfl rfl rfl ?_
                    refine zr_get (pc' := 269) dX12_take_266 rfl ps_102 kd_102 fl_X12_264 kc_12 (gv_102_20 _) ?_
                    refine zr_if_ge (tgt := 276) (pc' := 272) dX12_take_269 rfl rfl h.1 (fun hc => ?_) (fun hc => ?_)
                    · have h := h.2.1 hc
                      refine zr_iconst (pc' := 277) dX12_take_276 rfl ?_
                      refine zr_put (pc' := 280) dX12_take_277 rfl ps_102 kd_102 fl_X12_254 kc_12 rfl nf_102_19 rfl trivial (fun M73 hM1 => ?_)
                      have h := h M73 hM1
                      refine zr_aload_n (pc' := 281) (i := 0) dX12_take_280 rfl rfl rfl ?_
                      refine zr_get (pc' := 284) dX12_take_281 rfl ps_102 kd_102 fl_X12_264 kc_12 (gv_102_20 _) ?_
                      refine zr_iconst (pc' := 285) dX12_take_284 rfl ?_
                      refine zr_icmp_eq (tgt := 304) (pc' := 288) dX12_take_285 rfl rfl h.1 (zRd rfl) (fun hc => ?_) (fun hc => ?_)
                      · have h := h.2.1 hc
                        refine zr_aload_n (pc' := 305) (i := 0) dX12_take_304 rfl rfl rfl ?_
                        refine zr_dup (pc' := 306) dX12_take_305 rfl rfl ?_
                        refine zr_get (pc' := 309) dX12_take_306 rfl ps_102 kd_102 fl_X12_247 kc_12 (gv_102_18 _) ?_
                        refine zr_iconst (pc' := 310) dX12_take_309 rfl ?_
                        refine zr_iadd (pc' := 311) dX12_take_310 rfl ?_
                        refine zr_put (pc' := 314) dX12_take_311 rfl ps_102 kd_102 fl_X12_247 kc_12 rfl nf_102_18 rfl trivial (fun M74 hM1 => ?_)
                        have h := h M74 hM1
                        exact zr_return (x := 0) dX12_take_314 rfl (Nat.le_refl _) (Nat.le_refl _) (And.intro rfl h)
                      · have h := h.2.2 hc
                        refine zr_aload_n (pc' := 289) (i := 0) dX12_take_288 rfl rfl rfl ?_
                        refine zr_get (pc' := 292) dX12_take_289 rfl ps_102 kd_102 fl_X12_264 kc_12 (gv_102_20 _) ?_
                        refine zr_iconst (pc' := 293) dX12_take_292 rfl ?_
                        refine zr_icmp_eq (tgt := 304) (pc' := 296) dX12_take_293 rfl rfl h.1 (zRd rfl) (fun hc => ?_) (fun hc => ?_)
                        · have h := h.2.1 hc
                          refine zr_aload_n (pc' := 305) (i := 0) dX12_take_304 rfl rfl rfl ?_
                          refine zr_dup (pc' := 306) dX12_take_305 rfl rfl ?_
                          refine zr_get (pc' := 309) dX12_take_306 rfl ps_102 kd_102 fl_X12_247 kc_12 (gv_102_18 _) ?_
                          refine zr_iconst (pc' := 310) dX12_take_309 rfl ?_
                          refine zr_iadd (pc' := 311) dX12_take_310 rfl ?_
                          refine zr_put (pc' := 314) dX12_take_311 rfl ps_102 kd_102 fl_X12_247 kc_12 rfl nf_102_18 rfl trivial (fun M75 hM1 => ?_)
                          have h := h M75 hM1
                          exact zr_return (x := 0) dX12_take_314 rfl (Nat.le_refl _) (Nat.le_refl _) (And.intro rfl h)
                        · have h := h.2.2 hc
                          refine zr_aload_n (pc' := 297) (i := 0) dX12_take_296 rfl rfl rfl ?_
                          refine zr_get (pc' := 300) dX12_take_297 rfl ps_102 kd_102 fl_X12_264 kc_12 (gv_102_20 _) ?_
                          refine zr_iconst (pc' := 301) dX12_take_300 rfl ?_
                          refine zr_icmp_ne (tgt := 314) (pc' := 304) dX12_take_301 rfl rfl h.1 (zRd rfl) (fun hc => ?_) (fun hc => ?_)
                          · have h := h.2.1 hc
                            exact zr_return (x := 0) dX12_take_314 rfl (Nat.le_refl _) (Nat.le_refl _) (And.intro rfl h)
                          · have h := h.2.2 hc
                            refine zr_aload_n (pc' := 305) (i := 0) dX12_take_304 rfl rfl rfl ?_
                            refine zr_dup (pc' := 306) dX12_take_305 rfl rfl ?_
                            refine zr_get (pc' := 309) dX12_take_306 rfl ps_102 kd_102 fl_X12_247 kc_12 (gv_102_18 _) ?_
                            refine zr_iconst (pc' := 310) dX12_take_309 rfl ?_
                            refine zr_iadd (pc' := 311) dX12_take_310 rfl ?_
                            refine zr_put (pc' := 314) dX12_take_311 rfl ps_102 kd_102 fl_X12_247 kc_12 rfl nf_102_18 rfl trivial (fun M76 hM1 => ?_)
                            have h := h M76 hM1
                            exact zr_return (x := 0) dX12_take_314 rfl (Nat.le_refl _) (Nat.le_refl _) (And.intro rfl h)
                    · have h := h.2.2 hc
                      refine zr_iconst (pc' := 273) dX12_take_272 rfl ?_
                      refine zr_goto (pc' := 277) dX12_take_273 rfl ?_
                      refine zr_put (pc' := 280) dX12_take_277 rfl ps_102 kd_102 fl_X12_254 kc_12 rfl nf_102_19 rfl trivial (fun M77 hM1 => ?_)
                      have h := h M77 hM1
                      refine zr_aload_n (pc' := 281) (i := 0) dX12_take_280 rfl rfl rfl ?_
                      refine zr_get (pc' := 284) dX12_take_281 rfl ps_102 kd_102 fl_X12_264 kc_12 (gv_102_20 _) ?_
                      refine zr_iconst (pc' := 285) dX12_take_284 rfl ?_
                      refine zr_icmp_eq (tgt := 304) (pc' := 288) dX12_take_285 rfl rfl h.1 (zRd rfl) (fun hc => ?_) (fun hc => ?_)
                      · have h := h.2.1 hc
                        refine zr_aload_n (pc' := 305) (i := 0) dX12_take_304 rfl rfl rfl ?_
                        refine zr_dup (pc' := 306) dX12_take_305 rfl rfl ?_
                        refine zr_get (pc' := 309) dX12_take_306 rfl ps_102 kd_102 fl_X12_247 kc_12 (gv_102_18 _) ?_
                        refine zr_iconst (pc' := 310) dX12_take_309 rfl ?_
                        refine zr_iadd (pc' := 311) dX12_take_310 rfl ?_
                        refine zr_put (pc' := 314) dX12_take_311 rfl ps_102 kd_102 fl_X12_247 kc_12 rfl nf_102_18 rfl trivial (fun M78 hM1 => ?_)
                        have h := h M78 hM1
                        exact zr_return (x := 0) dX12_take_314 rfl (Nat.le_refl _) (Nat.le_refl _) (And.intro rfl h)
                      · have h := h.2.2 hc
                        refine zr_aload_n (pc' := 289) (i := 0) dX12_take_288 rfl rfl rfl ?_
                        refine zr_get (pc' := 292) dX12_take_289 rfl ps_102 kd_102 fl_X12_264 kc_12 (gv_102_20 _) ?_
                        refine zr_iconst (pc' := 293) dX12_take_292 rfl ?_
                        refine zr_icmp_eq (tgt := 304) (pc' := 296) dX12_take_293 rfl rfl h.1 (zRd rfl) (fun hc => ?_) (fun hc => ?_)
                        · have h := h.2.1 hc
                          refine zr_aload_n (pc' := 305) (i := 0) dX12_take_304 rfl rfl rfl ?_
                          refine zr_dup (pc' := 306) dX12_take_305 rfl rfl ?_
                          refine zr_get (pc' := 309) dX12_take_306 rfl ps_102 kd_102 fl_X12_247 kc_12 (gv_102_18 _) ?_
                          refine zr_iconst (pc' := 310) dX12_take_309 rfl ?_
                          refine zr_iadd (pc' := 311) dX12_take_310 rfl ?_
                          refine zr_put (pc' := 314) dX12_take_311 rfl ps_102 kd_102 fl_X12_247 kc_12 rfl nf_102_18 rfl trivial (fun M79 hM1 => ?_)
                          have h := h M79 hM1
                          exact zr_return (x := 0) dX12_take_314 rfl (Nat.le_refl _) (Nat.le_refl _) (And.intro rfl h)
                        · have h := h.2.2 hc
                          refine zr_aload_n (pc' := 297) (i := 0) dX12_take_296 rfl rfl rfl ?_
                          refine zr_get (pc' := 300) dX12_take_297 rfl ps_102 kd_102 fl_X12_264 kc_12 (gv_102_20 _) ?_
                          refine zr_iconst (pc' := 301) dX12_take_300 rfl ?_
                          refine zr_icmp_ne (tgt := 314) (pc' := 304) dX12_take_301 rfl rfl h.1 (zRd rfl) (fun hc => ?_) (fun hc => ?_)
                          · have h := h.2.1 hc
                            exact zr_return (x := 0) dX12_take_314 rfl (Nat.le_refl _) (Nat.le_refl _) (And.intro rfl h)
                          · have h := h.2.2 hc
                            refine zr_aload_n (pc' := 305) (i := 0) dX12_take_304 rfl rfl rfl ?_
                            refine zr_dup (pc' := 306) dX12_take_305 rfl rfl ?_
                            refine zr_get (pc' := 309) dX12_take_306 rfl ps_102 kd_102 fl_X12_247 kc_12 (gv_102_18 _) ?_
                            refine zr_iconst (pc' := 310) dX12_take_309 rfl ?_
                            refine zr_iadd (pc' := 311) dX12_take_310 rfl ?_
                            refine zr_put (pc' := 314) dX12_take_311 rfl ps_102 kd_102 fl_X12_247 kc_12 rfl nf_102_18 rfl trivial (fun M80 hM1 => ?_)
                            have h := h M80 hM1
                            exact zr_return (x := 0) dX12_take_314 rfl (Nat.le_refl _) (Nat.le_refl _) (And.intro rfl h)
                  · have h := h.2.2 hc
                    refine zr_aload_n (pc' := 161) (i := 0) dX12_take_160 rfl rfl rfl ?_
                    refine zr_iconst (pc' := 162) dX12_take_161 rfl ?_
                    refine zr_put (pc' := 165) dX12_take_162 rfl ps_102 kd_102 fl_X12_254 kc_12 rfl nf_102_19 rfl trivial (fun M81 hM1 => ?_)
                    have h := h M81 hM1
                    refine zr_aload_n (pc' := 166) (i := 0) dX12_take_165 rfl rfl rfl ?_
                    refine zr_iconst (pc' := 167) dX12_take_166 rfl ?_
                    refine zr_put (pc' := 170) dX12_take_167 rfl ps_102 kd_102 fl_X12_264 kc_12 rfl nf_102_20 rfl trivial (fun M82 hM1 => ?_)
                    have h := h M82 hM1
                    obtain ⟨n', hn, h⟩ := h
                    exact zn_al ((ih n' hn).2.2  _ h) ⟨rfl, trivial⟩
                · have h := h.2.2 hc
                  obtain ⟨n', hn, h⟩ := h
                  exact zn_al ((ih n' hn).2.1  _ h) ⟨rfl, trivial⟩
              · have h := h.2.2 hc
                refine zr_aload_n (pc' := 72) (i := 0) dX12_take_71 rfl rfl rfl ?_
                refine zr_iconst (pc' := 73) dX12_take_72 rfl ?_
                refine zr_put (pc' := 76) dX12_take_73 rfl ps_102 kd_102 fl_X12_254 kc_12 rfl nf_102_19 rfl trivial (fun M83 hM1 => ?_)
                have h := h M83 hM1
                refine zr_goto (pc' := 314) dX12_take_76 rfl ?_
                exact zr_return (x := 0) dX12_take_314 rfl (Nat.le_refl _) (Nat.le_refl _) (And.intro rfl h)
            · have h := h.2.2 hc
              refine zr_aload_n (pc' := 40) (i := 0) dX12_take_39 rfl rfl rfl ?_
              refine zr_dup (pc' := 41) dX12_take_40 rfl rfl ?_
              refine zr_get (pc' := 44) dX12_take_41 rfl ps_102 kd_102 fl_X12_247 kc_12 (gv_102_18 _) ?_
              refine zr_iconst (pc' := 45) dX12_take_44 rfl ?_
              refine zr_iadd (pc' := 46) dX12_take_45 rfl ?_
              refine zr_put (pc' := 49) dX12_take_46 rfl ps_102 kd_102 fl_X12_247 kc_12 rfl nf_102_18 rfl trivial (fun M84 hM1 => ?_)
              have h := h M84 hM1
              refine zr_goto (pc' := 0) dX12_take_49 rfl ?_
              obtain ⟨n', hn, h⟩ := h
              exact zn_al ((ih n' hn).1  _ h) ⟨rfl, trivial⟩
      · intro  M h
        have h := h90 n  M h
        refine zr_aload_n (pc' := 91) (i := 0) dX12_take_90 rfl rfl rfl ?_
        refine zr_aload_n (pc' := 92) (i := 0) dX12_take_91 rfl rfl rfl ?_
        refine zr_get (pc' := 95) dX12_take_92 rfl ps_102 kd_102 fl_X12_247 kc_12 (gv_102_18 _) ?_
        refine zn_callV (pc' := 98) (args := [.inl (M 102 18)]) (st := []) (st' := fun r85 => [.inl r85]) dX12_take_95 rfl cv_X12_257 ⟨rfl, rfl, by decide, by decide⟩ rfl ps_102 kd_102 rfl rfl (Nat.le_of_ble_eq_true rfl) (fun _ => rfl) h ?_
        intro r85 M86 h
        refine zr_if_eq (tgt := 114) (pc' := 101) dX12_take_98 rfl rfl h.1 (fun hc => ?_) (fun hc => ?_)
        · have h := h.2.1 hc
          refine zr_aload_n (pc' := 115) (i := 0) dX12_take_114 rfl rfl rfl ?_
          refine zr_aload_n (pc' := 116) (i := 0) dX12_take_115 rfl rfl rfl ?_
          refine zr_aload_n (pc' := 117) (i := 0) dX12_take_116 rfl rfl rfl ?_
          refine zr_get (pc' := 120) dX12_take_117 rfl ps_102 kd_102 fl_X12_241 kc_12 (gv_102_21 _) ?_
          refine zr_aload_n (pc' := 121) (i := 0) dX12_take_120 rfl rfl rfl ?_
          refine zr_get (pc' := 124) dX12_take_121 rfl ps_102 kd_102 fl_X12_247 kc_12 (gv_102_18 _) ?_
          refine zn_callV (pc' := 127) (args := [.inl (M86 102 21), .inl (M86 102 18)]) (st := [.inr (.inr 102)]) (st' := fun r87 => [.inl r87, .inr (.inr 102)]) dX12_take_124 rfl cv_X12_260 ⟨rfl, rfl, by decide, by decide⟩ rfl ps_102 kd_102 rfl rfl (Nat.le_of_ble_eq_true rfl) (fun _ => rfl) h ?_
          intro r87 M88 h
          refine zr_put (pc' := 130) dX12_take_127 rfl ps_102 kd_102 fl_X12_264 kc_12 rfl nf_102_20 rfl trivial (fun M89 hM1 => ?_)
          have h := h M89 hM1
          refine zr_aload_n (pc' := 131) (i := 0) dX12_take_130 rfl rfl rfl ?_
          refine zr_aload_n (pc' := 132) (i := 0) dX12_take_131 rfl rfl rfl ?_
          refine zr_get (pc' := 135) dX12_take_132 rfl ps_102 kd_102 fl_X12_264 kc_12 (gv_102_20 _) ?_
          refine zr_if_ge (tgt := 142) (pc' := 138) dX12_take_135 rfl rfl h.1 (fun hc => ?_) (fun hc => ?_)
          · have h := h.2.1 hc
            refine zr_iconst (pc' := 143) dX12_take_142 rfl ?_
            refine zr_put (pc' := 146) dX12_take_143 rfl ps_102 kd_102 fl_X12_254 kc_12 rfl nf_102_19 rfl trivial (fun M90 hM1 => ?_)
            have h := h M90 hM1
            refine zr_goto (pc' := 314) dX12_take_146 rfl ?_
            exact zr_return (x := 0) dX12_take_314 rfl (Nat.le_refl _) (Nat.le_refl _) (And.intro rfl h)
          · have h := h.2.2 hc
            refine zr_iconst (pc' := 139) dX12_take_138 rfl ?_
            refine zr_goto (pc' := 143) dX12_take_139 rfl ?_
            refine zr_put (pc' := 146) dX12_take_143 rfl ps_102 kd_102 fl_X12_254 kc_12 rfl nf_102_19 rfl trivial (fun M91 hM1 => ?_)
            have h := h M91 hM1
            refine zr_goto (pc' := 314) dX12_take_146 rfl ?_
            exact zr_return (x := 0) dX12_take_314 rfl (Nat.le_refl _) (Nat.le_refl _) (And.intro rfl h)
        · have h := h.2.2 hc
          refine zr_aload_n (pc' := 102) (i := 0) dX12_take_101 rfl rfl rfl ?_
          refine zr_dup (pc' := 103) dX12_take_102 rfl rfl ?_
          refine zr_get (pc' := 106) dX12_take_103 rfl ps_102 kd_102 fl_X12_247 kc_12 (gv_102_18 _) ?_
          refine zr_iconst (pc' := 107) dX12_take_106 rfl ?_
          refine zr_iadd (pc' := 108) dX12_take_107 rfl ?_
          refine zr_put (pc' := 111) dX12_take_108 rfl ps_102 kd_102 fl_X12_247 kc_12 rfl nf_102_18 rfl trivial (fun M92 hM1 => ?_)
          have h := h M92 hM1
          refine zr_goto (pc' := 90) dX12_take_111 rfl ?_
          obtain ⟨n', hn, h⟩ := h
          exact zn_al ((ih n' hn).2.1  _ h) ⟨rfl, trivial⟩
      · intro  M h
        have h := h170 n  M h
        refine zr_aload_n (pc' := 171) (i := 0) dX12_take_170 rfl rfl rfl ?_
        refine zr_aload_n (pc' := 172) (i := 0) dX12_take_171 rfl rfl rfl ?_
        refine zr_get (pc' := 175) dX12_take_172 rfl ps_102 kd_102 fl_X12_247 kc_12 (gv_102_18 _) ?_
        refine zn_callV (pc' := 178) (args := [.inl (M 102 18)]) (st := []) (st' := fun r93 => [.inl r93]) dX12_take_175 rfl cv_X12_267 ⟨rfl, rfl, by decide, by decide⟩ rfl ps_102 kd_102 rfl rfl (Nat.le_of_ble_eq_true rfl) (fun _ => rfl) h ?_
        intro r93 M94 h
        refine zr_if_eq (tgt := 314) (pc' := 181) dX12_take_178 rfl rfl h.1 (fun hc => ?_) (fun hc => ?_)
        · have h := h.2.1 hc
          exact zr_return (x := 0) dX12_take_314 rfl (Nat.le_refl _) (Nat.le_refl _) (And.intro rfl h)
        · have h := h.2.2 hc
          refine zr_aload_n (pc' := 182) (i := 0) dX12_take_181 rfl rfl rfl ?_
          refine zr_aload_n (pc' := 183) (i := 0) dX12_take_182 rfl rfl rfl ?_
          refine zr_get (pc' := 186) dX12_take_183 rfl ps_102 kd_102 fl_X12_264 kc_12 (gv_102_20 _) ?_
          refine zr_ldcw (pc' := 189) (x := 99999) dX12_take_186 rfl ci_X12_270 ?_
          refine zr_icmp_le (tgt := 199) (pc' := 192) dX12_take_189 rfl rfl h.1 (zRd rfl) (fun hc => ?_) (fun hc => ?_)
          · have h := h.2.1 hc
            refine zr_bipush (pc' := 201) dX12_take_199 rfl rfl ?_
            refine zr_aload_n (pc' := 202) (i := 0) dX12_take_201 rfl rfl rfl ?_
            refine zr_get (pc' := 205) dX12_take_202 rfl ps_102 kd_102 fl_X12_264 kc_12 (gv_102_20 _) ?_
            refine zr_imul (pc' := 206) dX12_take_205 rfl ?_
            refine zr_aload_n (pc' := 207) (i := 0) dX12_take_206 rfl rfl rfl ?_
            refine zr_get (pc' := 210) dX12_take_207 rfl ps_102 kd_102 fl_X12_7 kc_12 (gv_102_0 _) ?_
            refine zr_aload_n (pc' := 211) (i := 0) dX12_take_210 rfl rfl rfl ?_
            refine zr_get (pc' := 214) dX12_take_211 rfl ps_102 kd_102 fl_X12_247 kc_12 (gv_102_18 _) ?_
            refine zr_iald (pc' := 215) dX12_take_214 rfl ps_103 kd_103 (by decide) h.1.1 h.1.2 ?_
            have h := h.2
            refine zr_iadd (pc' := 216) dX12_take_215 rfl ?_
            refine zr_bipush (pc' := 218) dX12_take_216 rfl rfl ?_
            refine zr_isub (pc' := 219) dX12_take_218 rfl ?_
            refine zr_put (pc' := 222) dX12_take_219 rfl ps_102 kd_102 fl_X12_264 kc_12 rfl nf_102_20 rfl trivial (fun M95 hM1 => ?_)
            have h := h M95 hM1
            refine zr_aload_n (pc' := 223) (i := 0) dX12_take_222 rfl rfl rfl ?_
            refine zr_dup (pc' := 224) dX12_take_223 rfl rfl ?_
            refine zr_get (pc' := 227) dX12_take_224 rfl ps_102 kd_102 fl_X12_247 kc_12 (gv_102_18 _) ?_
            refine zr_iconst (pc' := 228) dX12_take_227 rfl ?_
            refine zr_iadd (pc' := 229) dX12_take_228 rfl ?_
            refine zr_put (pc' := 232) dX12_take_229 rfl ps_102 kd_102 fl_X12_247 kc_12 rfl nf_102_18 rfl trivial (fun M96 hM1 => ?_)
            have h := h M96 hM1
            refine zr_goto (pc' := 170) dX12_take_232 rfl ?_
            obtain ⟨n', hn, h⟩ := h
            exact zn_al ((ih n' hn).2.2  _ h) ⟨rfl, trivial⟩
          · have h := h.2.2 hc
            refine zr_aload_n (pc' := 193) (i := 0) dX12_take_192 rfl rfl rfl ?_
            refine zr_get (pc' := 196) dX12_take_193 rfl ps_102 kd_102 fl_X12_264 kc_12 (gv_102_20 _) ?_
            refine zr_goto (pc' := 219) dX12_take_196 rfl ?_
            refine zr_put (pc' := 222) dX12_take_219 rfl ps_102 kd_102 fl_X12_264 kc_12 rfl nf_102_20 rfl trivial (fun M97 hM1 => ?_)
            have h := h M97 hM1
            refine zr_aload_n (pc' := 223) (i := 0) dX12_take_222 rfl rfl rfl ?_
            refine zr_dup (pc' := 224) dX12_take_223 rfl rfl ?_
            refine zr_get (pc' := 227) dX12_take_224 rfl ps_102 kd_102 fl_X12_247 kc_12 (gv_102_18 _) ?_
            refine zr_iconst (pc' := 228) dX12_take_227 rfl ?_
            refine zr_iadd (pc' := 229) dX12_take_228 rfl ?_
            refine zr_put (pc' := 232) dX12_take_229 rfl ps_102 kd_102 fl_X12_247 kc_12 rfl nf_102_18 rfl trivial (fun M98 hM1 => ?_)
            have h := h M98 hM1
            refine zr_goto (pc' := 170) dX12_take_232 rfl ?_
            obtain ⟨n', hn, h⟩ := h
            exact zn_al ((ih n' hn).2.2  _ h) ⟨rfl, trivial⟩
  refine zP_of (by decide +kernel) rfl (Nat.le_of_ble_eq_true rfl) ?_
  show zA E zNN (0, 0) mX12_take 0 [(0, .inr (.inr 102))] [] M (zQ Q)
  refine zr_aload_n (pc' := 1) (i := 0) dX12_take_0 rfl rfl rfl ?_
  refine zr_get (pc' := 4) dX12_take_1 rfl ps_102 kd_102 fl_X12_247 kc_12 (gv_102_18 _) ?_
  refine zr_aload_n (pc' := 5) (i := 0) dX12_take_4 rfl rfl rfl ?_
  refine zr_get (pc' := 8) dX12_take_5 rfl ps_102 kd_102 fl_X12_244 kc_12 (gv_102_17 _) ?_
  refine zr_icmp_ge (tgt := 52) (pc' := 11) dX12_take_8 rfl rfl h.1.1 h.1.2 (fun hc => ?_) (fun hc => ?_)
  · have h := h.2.1 hc
    refine zr_aload_n (pc' := 53) (i := 0) dX12_take_52 rfl rfl rfl ?_
    refine zr_aload_n (pc' := 54) (i := 0) dX12_take_53 rfl rfl rfl ?_
    refine zr_get (pc' := 57) dX12_take_54 rfl ps_102 kd_102 fl_X12_247 kc_12 (gv_102_18 _) ?_
    refine zr_put (pc' := 60) dX12_take_57 rfl ps_102 kd_102 fl_X12_241 kc_12 rfl nf_102_21 rfl trivial (fun M1 hM1 => ?_)
    have h := h M1 hM1
    refine zr_aload_n (pc' := 61) (i := 0) dX12_take_60 rfl rfl rfl ?_
    refine zr_get (pc' := 64) dX12_take_61 rfl ps_102 kd_102 fl_X12_247 kc_12 (gv_102_18 _) ?_
    refine zr_aload_n (pc' := 65) (i := 0) dX12_take_64 rfl rfl rfl ?_
    refine zr_get (pc' := 68) dX12_take_65 rfl ps_102 kd_102 fl_X12_244 kc_12 (gv_102_17 _) ?_
    refine zr_icmp_ne (tgt := 79) (pc' := 71) dX12_take_68 rfl rfl h.1.1 h.1.2 (fun hc => ?_) (fun hc => ?_)
    · have h := h.2.1 hc
      refine zr_aload_n (pc' := 80) (i := 0) dX12_take_79 rfl rfl rfl ?_
      refine zr_aload_n (pc' := 81) (i := 0) dX12_take_80 rfl rfl rfl ?_
      refine zr_get (pc' := 84) dX12_take_81 rfl ps_102 kd_102 fl_X12_247 kc_12 (gv_102_18 _) ?_
      refine zn_callV (pc' := 87) (args := [.inl (M1 102 18)]) (st := []) (st' := fun r2 => [.inl r2]) dX12_take_84 rfl cv_X12_257 ⟨rfl, rfl, by decide, by decide⟩ rfl ps_102 kd_102 rfl rfl (Nat.le_of_ble_eq_true rfl) (fun _ => rfl) h ?_
      intro r2 M3 h
      refine zr_if_eq (tgt := 149) (pc' := 90) dX12_take_87 rfl rfl h.1 (fun hc => ?_) (fun hc => ?_)
      · have h := h.2.1 hc
        refine zr_aload_n (pc' := 150) (i := 0) dX12_take_149 rfl rfl rfl ?_
        refine zr_aload_n (pc' := 151) (i := 0) dX12_take_150 rfl rfl rfl ?_
        refine zr_get (pc' := 154) dX12_take_151 rfl ps_102 kd_102 fl_X12_247 kc_12 (gv_102_18 _) ?_
        refine zn_callV (pc' := 157) (args := [.inl (M3 102 18)]) (st := []) (st' := fun r4 => [.inl r4]) dX12_take_154 rfl cv_X12_267 ⟨rfl, rfl, by decide, by decide⟩ rfl ps_102 kd_102 rfl rfl (Nat.le_of_ble_eq_true rfl) (fun _ => rfl) h ?_
        intro r4 M5 h
        refine zr_if_eq (tgt := 235) (pc' := 160) dX12_take_157 rfl rfl h.1 (fun hc => ?_) (fun hc => ?_)
        · have h := h.2.1 hc
          refine zr_aload_n (pc' := 236) (i := 0) dX12_take_235 rfl rfl rfl ?_
          refine zr_get (pc' := 239) dX12_take_236 rfl ps_102 kd_102 fl_X12_7 kc_12 (gv_102_0 _) ?_
          refine zr_aload_n (pc' := 240) (i := 0) dX12_take_239 rfl rfl rfl ?_
          refine zr_get (pc' := 243) dX12_take_240 rfl ps_102 kd_102 fl_X12_247 kc_12 (gv_102_18 _) ?_
          refine zr_iald (pc' := 244) dX12_take_243 rfl ps_103 kd_103 (by decide) h.1.1 h.1.2 ?_
          have h := h.2
          refine zr_istore_n (pc' := 245) (i := 1) (al' := [(1, .inl (M5 103 ((M5 102 18).toNat))), (0, .inr (.inr 102))]) dX12_take_244 rfl rfl (by decide) rfl ?_
          refine zr_aload_n (pc' := 246) (i := 0) dX12_take_245 rfl rfl rfl ?_
          refine zr_dup (pc' := 247) dX12_take_246 rfl rfl ?_
          refine zr_get (pc' := 250) dX12_take_247 rfl ps_102 kd_102 fl_X12_247 kc_12 (gv_102_18 _) ?_
          refine zr_iconst (pc' := 251) dX12_take_250 rfl ?_
          refine zr_iadd (pc' := 252) dX12_take_251 rfl ?_
          refine zr_put (pc' := 255) dX12_take_252 rfl ps_102 kd_102 fl_X12_247 kc_12 rfl nf_102_18 rfl trivial (fun M6 hM1 => ?_)
          have h := h M6 hM1
          refine zr_aload_n (pc' := 256) (i := 0) dX12_take_255 rfl rfl rfl ?_
          refine zr_aload_n (pc' := 257) (i := 0) dX12_take_256 rfl rfl rfl ?_
          refine zr_iload_n (pc' := 258) (i := 1) dX12_take_257 rfl rfl rfl ?_
          refine zn_callV (pc' := 261) (args := [.inl (M5 103 ((M5 102 18).toNat))]) (st := [.inr (.inr 102)]) (st' := fun r7 => [.inl r7, .inr (.inr 102)]) dX12_take_258 rfl cv_X12_271 ⟨rfl, rfl, by decide, by decide⟩ rfl ps_102 kd_102 rfl rfl (Nat.le_of_ble_eq_true rfl) (fun _ => rfl) h ?_
          intro r7 M8 h
          refine zr_put (pc' := 264) dX12_take_261 rfl ps_102 kd_102 fl_X12_264 kc_12 rfl nf_102_20 rfl trivial (fun M9 hM1 => ?_)
          have h := h M9 hM1
          refine zr_aload_n (pc' := 265) (i := 0) dX12_take_264 rfl rfl rfl ?_
          refine zr_aload_n (pc' := 266) (i := 0) dX12_take_265 rfl rfl rfl ?_
          refine zr_get (pc' := 269) dX12_take_266 rfl ps_102 kd_102 fl_X12_264 kc_12 (gv_102_20 _) ?_
          refine zr_if_ge (tgt := 276) (pc' := 272) dX12_take_269 rfl rfl h.1 (fun hc => ?_) (fun hc => ?_)
          · have h := h.2.1 hc
            refine zr_iconst (pc' := 277) dX12_take_276 rfl ?_
            refine zr_put (pc' := 280) dX12_take_277 rfl ps_102 kd_102 fl_X12_254 kc_12 rfl nf_102_19 rfl trivial (fun M10 hM1 => ?_)
            have h := h M10 hM1
            refine zr_aload_n (pc' := 281) (i := 0) dX12_take_280 rfl rfl rfl ?_
            refine zr_get (pc' := 284) dX12_take_281 rfl ps_102 kd_102 fl_X12_264 kc_12 (gv_102_20 _) ?_
            refine zr_iconst (pc' := 285) dX12_take_284 rfl ?_
            refine zr_icmp_eq (tgt := 304) (pc' := 288) dX12_take_285 rfl rfl h.1 (zRd rfl) (fun hc => ?_) (fun hc => ?_)
            · have h := h.2.1 hc
              refine zr_aload_n (pc' := 305) (i := 0) dX12_take_304 rfl rfl rfl ?_
              refine zr_dup (pc' := 306) dX12_take_305 rfl rfl ?_
              refine zr_get (pc' := 309) dX12_take_306 rfl ps_102 kd_102 fl_X12_247 kc_12 (gv_102_18 _) ?_
              refine zr_iconst (pc' := 310) dX12_take_309 rfl ?_
              refine zr_iadd (pc' := 311) dX12_take_310 rfl ?_
              refine zr_put (pc' := 314) dX12_take_311 rfl ps_102 kd_102 fl_X12_247 kc_12 rfl nf_102_18 rfl trivial (fun M11 hM1 => ?_)
              have h := h M11 hM1
              exact zr_return (x := 0) dX12_take_314 rfl (Nat.le_refl _) (Nat.le_refl _) (And.intro rfl h)
            · have h := h.2.2 hc
              refine zr_aload_n (pc' := 289) (i := 0) dX12_take_288 rfl rfl rfl ?_
              refine zr_get (pc' := 292) dX12_take_289 rfl ps_102 kd_102 fl_X12_264 kc_12 (gv_102_20 _) ?_
              refine zr_iconst (pc' := 293) dX12_take_292 rfl ?_
              refine zr_icmp_eq (tgt := 304) (pc' := 296) dX12_take_293 rfl rfl h.1 (zRd rfl) (fun hc => ?_) (fun hc => ?_)
              · have h := h.2.1 hc
                refine zr_aload_n (pc' := 305) (i := 0) dX12_take_304 rfl rfl rfl ?_
                refine zr_dup (pc' := 306) dX12_take_305 rfl rfl ?_
                refine zr_get (pc' := 309) dX12_take_306 rfl ps_102 kd_102 fl_X12_247 kc_12 (gv_102_18 _) ?_
                refine zr_iconst (pc' := 310) dX12_take_309 rfl ?_
                refine zr_iadd (pc' := 311) dX12_take_310 rfl ?_
                refine zr_put (pc' := 314) dX12_take_311 rfl ps_102 kd_102 fl_X12_247 kc_12 rfl nf_102_18 rfl trivial (fun M12 hM1 => ?_)
                have h := h M12 hM1
                exact zr_return (x := 0) dX12_take_314 rfl (Nat.le_refl _) (Nat.le_refl _) (And.intro rfl h)
              · have h := h.2.2 hc
                refine zr_aload_n (pc' := 297) (i := 0) dX12_take_296 rfl rfl rfl ?_
                refine zr_get (pc' := 300) dX12_take_297 rfl ps_102 kd_102 fl_X12_264 kc_12 (gv_102_20 _) ?_
                refine zr_iconst (pc' := 301) dX12_take_300 rfl ?_
                refine zr_icmp_ne (tgt := 314) (pc' := 304) dX12_take_301 rfl rfl h.1 (zRd rfl) (fun hc => ?_) (fun hc => ?_)
                · have h := h.2.1 hc
                  exact zr_return (x := 0) dX12_take_314 rfl (Nat.le_refl _) (Nat.le_refl _) (And.intro rfl h)
                · have h := h.2.2 hc
                  refine zr_aload_n (pc' := 305) (i := 0) dX12_take_304 rfl rfl rfl ?_
                  refine zr_dup (pc' := 306) dX12_take_305 rfl rfl ?_
                  refine zr_get (pc' := 309) dX12_take_306 rfl ps_102 kd_102 fl_X12_247 kc_12 (gv_102_18 _) ?_
                  refine zr_iconst (pc' := 310) dX12_take_309 rfl ?_
                  refine zr_iadd (pc' := 311) dX12_take_310 rfl ?_
                  refine zr_put (pc' := 314) dX12_take_311 rfl ps_102 kd_102 fl_X12_247 kc_12 rfl nf_102_18 rfl trivial (fun M13 hM1 => ?_)
                  have h := h M13 hM1
                  exact zr_return (x := 0) dX12_take_314 rfl (Nat.le_refl _) (Nat.le_refl _) (And.intro rfl h)
          · have h := h.2.2 hc
            refine zr_iconst (pc' := 273) dX12_take_272 rfl ?_
            refine zr_goto (pc' := 277) dX12_take_273 rfl ?_
            refine zr_put (pc' := 280) dX12_take_277 rfl ps_102 kd_102 fl_X12_254 kc_12 rfl nf_102_19 rfl trivial (fun M14 hM1 => ?_)
            have h := h M14 hM1
            refine zr_aload_n (pc' := 281) (i := 0) dX12_take_280 rfl rfl rfl ?_
            refine zr_get (pc' := 284) dX12_take_281 rfl ps_102 kd_102 fl_X12_264 kc_12 (gv_102_20 _) ?_
            refine zr_iconst (pc' := 285) dX12_take_284 rfl ?_
            refine zr_icmp_eq (tgt := 304) (pc' := 288) dX12_take_285 rfl rfl h.1 (zRd rfl) (fun hc => ?_) (fun hc => ?_)
            · have h := h.2.1 hc
              refine zr_aload_n (pc' := 305) (i := 0) dX12_take_304 rfl rfl rfl ?_
              refine zr_dup (pc' := 306) dX12_take_305 rfl rfl ?_
              refine zr_get (pc' := 309) dX12_take_306 rfl ps_102 kd_102 fl_X12_247 kc_12 (gv_102_18 _) ?_
              refine zr_iconst (pc' := 310) dX12_take_309 rfl ?_
              refine zr_iadd (pc' := 311) dX12_take_310 rfl ?_
              refine zr_put (pc' := 314) dX12_take_311 rfl ps_102 kd_102 fl_X12_247 kc_12 rfl nf_102_18 rfl trivial (fun M15 hM1 => ?_)
              have h := h M15 hM1
              exact zr_return (x := 0) dX12_take_314 rfl (Nat.le_refl _) (Nat.le_refl _) (And.intro rfl h)
            · have h := h.2.2 hc
              refine zr_aload_n (pc' := 289) (i := 0) dX12_take_288 rfl rfl rfl ?_
              refine zr_get (pc' := 292) dX12_take_289 rfl ps_102 kd_102 fl_X12_264 kc_12 (gv_102_20 _) ?_
              refine zr_iconst (pc' := 293) dX12_take_292 rfl ?_
              refine zr_icmp_eq (tgt := 304) (pc' := 296) dX12_take_293 rfl rfl h.1 (zRd rfl) (fun hc => ?_) (fun hc => ?_)
              · have h := h.2.1 hc
                refine zr_aload_n (pc' := 305) (i := 0) dX12_take_304 rfl rfl rfl ?_
                refine zr_dup (pc' := 306) dX12_take_305 rfl rfl ?_
                refine zr_get (pc' := 309) dX12_take_306 rfl ps_102 kd_102 fl_X12_247 kc_12 (gv_102_18 _) ?_
                refine zr_iconst (pc' := 310) dX12_take_309 rfl ?_
                refine zr_iadd (pc' := 311) dX12_take_310 rfl ?_
                refine zr_put (pc' := 314) dX12_take_311 rfl ps_102 kd_102 fl_X12_247 kc_12 rfl nf_102_18 rfl trivial (fun M16 hM1 => ?_)
                have h := h M16 hM1
                exact zr_return (x := 0) dX12_take_314 rfl (Nat.le_refl _) (Nat.le_refl _) (And.intro rfl h)
              · have h := h.2.2 hc
                refine zr_aload_n (pc' := 297) (i := 0) dX12_take_296 rfl rfl rfl ?_
                refine zr_get (pc' := 300) dX12_take_297 rfl ps_102 kd_102 fl_X12_264 kc_12 (gv_102_20 _) ?_
                refine zr_iconst (pc' := 301) dX12_take_300 rfl ?_
                refine zr_icmp_ne (tgt := 314) (pc' := 304) dX12_take_301 rfl rfl h.1 (zRd rfl) (fun hc => ?_) (fun hc => ?_)
                · have h := h.2.1 hc
                  exact zr_return (x := 0) dX12_take_314 rfl (Nat.le_refl _) (Nat.le_refl _) (And.intro rfl h)
                · have h := h.2.2 hc
                  refine zr_aload_n (pc' := 305) (i := 0) dX12_take_304 rfl rfl rfl ?_
                  refine zr_dup (pc' := 306) dX12_take_305 rfl rfl ?_
                  refine zr_get (pc' := 309) dX12_take_306 rfl ps_102 kd_102 fl_X12_247 kc_12 (gv_102_18 _) ?_
                  refine zr_iconst (pc' := 310) dX12_take_309 rfl ?_
                  refine zr_iadd (pc' := 311) dX12_take_310 rfl ?_
                  refine zr_put (pc' := 314) dX12_take_311 rfl ps_102 kd_102 fl_X12_247 kc_12 rfl nf_102_18 rfl trivial (fun M17 hM1 => ?_)
                  have h := h M17 hM1
                  exact zr_return (x := 0) dX12_take_314 rfl (Nat.le_refl _) (Nat.le_refl _) (And.intro rfl h)
        · have h := h.2.2 hc
          refine zr_aload_n (pc' := 161) (i := 0) dX12_take_160 rfl rfl rfl ?_
          refine zr_iconst (pc' := 162) dX12_take_161 rfl ?_
          refine zr_put (pc' := 165) dX12_take_162 rfl ps_102 kd_102 fl_X12_254 kc_12 rfl nf_102_19 rfl trivial (fun M18 hM1 => ?_)
          have h := h M18 hM1
          refine zr_aload_n (pc' := 166) (i := 0) dX12_take_165 rfl rfl rfl ?_
          refine zr_iconst (pc' := 167) dX12_take_166 rfl ?_
          refine zr_put (pc' := 170) dX12_take_167 rfl ps_102 kd_102 fl_X12_264 kc_12 rfl nf_102_20 rfl trivial (fun M19 hM1 => ?_)
          have h := h M19 hM1
          obtain ⟨n', h⟩ := h
          exact zn_al ((key n').2.2  _ h) ⟨rfl, trivial⟩
      · have h := h.2.2 hc
        obtain ⟨n', h⟩ := h
        exact zn_al ((key n').2.1  _ h) ⟨rfl, trivial⟩
    · have h := h.2.2 hc
      refine zr_aload_n (pc' := 72) (i := 0) dX12_take_71 rfl rfl rfl ?_
      refine zr_iconst (pc' := 73) dX12_take_72 rfl ?_
      refine zr_put (pc' := 76) dX12_take_73 rfl ps_102 kd_102 fl_X12_254 kc_12 rfl nf_102_19 rfl trivial (fun M20 hM1 => ?_)
      have h := h M20 hM1
      refine zr_goto (pc' := 314) dX12_take_76 rfl ?_
      exact zr_return (x := 0) dX12_take_314 rfl (Nat.le_refl _) (Nat.le_refl _) (And.intro rfl h)
  · have h := h.2.2 hc
    refine zr_aload_n (pc' := 12) (i := 0) dX12_take_11 rfl rfl rfl ?_
    refine zr_get (pc' := 15) dX12_take_12 rfl ps_102 kd_102 fl_X12_7 kc_12 (gv_102_0 _) ?_
    refine zr_aload_n (pc' := 16) (i := 0) dX12_take_15 rfl rfl rfl ?_
    refine zr_get (pc' := 19) dX12_take_16 rfl ps_102 kd_102 fl_X12_247 kc_12 (gv_102_18 _) ?_
    refine zr_iald (pc' := 20) dX12_take_19 rfl ps_103 kd_103 (by decide) h.1.1 h.1.2 ?_
    have h := h.2
    refine zr_bipush (pc' := 22) dX12_take_20 rfl rfl ?_
    refine zr_icmp_eq (tgt := 39) (pc' := 25) dX12_take_22 rfl rfl h.1 (zRd rfl) (fun hc => ?_) (fun hc => ?_)
    · have h := h.2.1 hc
      refine zr_aload_n (pc' := 40) (i := 0) dX12_take_39 rfl rfl rfl ?_
      refine zr_dup (pc' := 41) dX12_take_40 rfl rfl ?_
      refine zr_get (pc' := 44) dX12_take_41 rfl ps_102 kd_102 fl_X12_247 kc_12 (gv_102_18 _) ?_
      refine zr_iconst (pc' := 45) dX12_take_44 rfl ?_
      refine zr_iadd (pc' := 46) dX12_take_45 rfl ?_
      refine zr_put (pc' := 49) dX12_take_46 rfl ps_102 kd_102 fl_X12_247 kc_12 rfl nf_102_18 rfl trivial (fun M21 hM1 => ?_)
      have h := h M21 hM1
      refine zr_goto (pc' := 0) dX12_take_49 rfl ?_
      obtain ⟨n', h⟩ := h
      exact zn_al ((key n').1  _ h) ⟨rfl, trivial⟩
    · have h := h.2.2 hc
      refine zr_aload_n (pc' := 26) (i := 0) dX12_take_25 rfl rfl rfl ?_
      refine zr_get (pc' := 29) dX12_take_26 rfl ps_102 kd_102 fl_X12_7 kc_12 (gv_102_0 _) ?_
      refine zr_aload_n (pc' := 30) (i := 0) dX12_take_29 rfl rfl rfl ?_
      refine zr_get (pc' := 33) dX12_take_30 rfl ps_102 kd_102 fl_X12_247 kc_12 (gv_102_18 _) ?_
      refine zr_iald (pc' := 34) dX12_take_33 rfl ps_103 kd_103 (by decide) h.1.1 h.1.2 ?_
      have h := h.2
      refine zr_bipush (pc' := 36) dX12_take_34 rfl rfl ?_
      refine zr_icmp_ne (tgt := 52) (pc' := 39) dX12_take_36 rfl rfl h.1 (zRd rfl) (fun hc => ?_) (fun hc => ?_)
      · have h := h.2.1 hc
        refine zr_aload_n (pc' := 53) (i := 0) dX12_take_52 rfl rfl rfl ?_
        refine zr_aload_n (pc' := 54) (i := 0) dX12_take_53 rfl rfl rfl ?_
        refine zr_get (pc' := 57) dX12_take_54 rfl ps_102 kd_102 fl_X12_247 kc_12 (gv_102_18 _) ?_
        refine zr_put (pc' := 60) dX12_take_57 rfl ps_102 kd_102 fl_X12_241 kc_12 rfl nf_102_21 rfl trivial (fun M22 hM1 => ?_)
        have h := h M22 hM1
        refine zr_aload_n (pc' := 61) (i := 0) dX12_take_60 rfl rfl rfl ?_
        refine zr_get (pc' := 64) dX12_take_61 rfl ps_102 kd_102 fl_X12_247 kc_12 (gv_102_18 _) ?_
        refine zr_aload_n (pc' := 65) (i := 0) dX12_take_64 rfl rfl rfl ?_
        refine zr_get (pc' := 68) dX12_take_65 rfl ps_102 kd_102 fl_X12_244 kc_12 (gv_102_17 _) ?_
        refine zr_icmp_ne (tgt := 79) (pc' := 71) dX12_take_68 rfl rfl h.1.1 h.1.2 (fun hc => ?_) (fun hc => ?_)
        · have h := h.2.1 hc
          refine zr_aload_n (pc' := 80) (i := 0) dX12_take_79 rfl rfl rfl ?_
          refine zr_aload_n (pc' := 81) (i := 0) dX12_take_80 rfl rfl rfl ?_
          refine zr_get (pc' := 84) dX12_take_81 rfl ps_102 kd_102 fl_X12_247 kc_12 (gv_102_18 _) ?_
          refine zn_callV (pc' := 87) (args := [.inl (M22 102 18)]) (st := []) (st' := fun r23 => [.inl r23]) dX12_take_84 rfl cv_X12_257 ⟨rfl, rfl, by decide, by decide⟩ rfl ps_102 kd_102 rfl rfl (Nat.le_of_ble_eq_true rfl) (fun _ => rfl) h ?_
          intro r23 M24 h
          refine zr_if_eq (tgt := 149) (pc' := 90) dX12_take_87 rfl rfl h.1 (fun hc => ?_) (fun hc => ?_)
          · have h := h.2.1 hc
            refine zr_aload_n (pc' := 150) (i := 0) dX12_take_149 rfl rfl rfl ?_
            refine zr_aload_n (pc' := 151) (i := 0) dX12_take_150 rfl rfl rfl ?_
            refine zr_get (pc' := 154) dX12_take_151 rfl ps_102 kd_102 fl_X12_247 kc_12 (gv_102_18 _) ?_
            refine zn_callV (pc' := 157) (args := [.inl (M24 102 18)]) (st := []) (st' := fun r25 => [.inl r25]) dX12_take_154 rfl cv_X12_267 ⟨rfl, rfl, by decide, by decide⟩ rfl ps_102 kd_102 rfl rfl (Nat.le_of_ble_eq_true rfl) (fun _ => rfl) h ?_
            intro r25 M26 h
            refine zr_if_eq (tgt := 235) (pc' := 160) dX12_take_157 rfl rfl h.1 (fun hc => ?_) (fun hc => ?_)
            · have h := h.2.1 hc
              refine zr_aload_n (pc' := 236) (i := 0) dX12_take_235 rfl rfl rfl ?_
              refine zr_get (pc' := 239) dX12_take_236 rfl ps_102 kd_102 fl_X12_7 kc_12 (gv_102_0 _) ?_
              refine zr_aload_n (pc' := 240) (i := 0) dX12_take_239 rfl rfl rfl ?_
              refine zr_get (pc' := 243) dX12_take_240 rfl ps_102 kd_102 fl_X12_247 kc_12 (gv_102_18 _) ?_
              refine zr_iald (pc' := 244) dX12_take_243 rfl ps_103 kd_103 (by decide) h.1.1 h.1.2 ?_
              have h := h.2
              refine zr_istore_n (pc' := 245) (i := 1) (al' := [(1, .inl (M26 103 ((M26 102 18).toNat))), (0, .inr (.inr 102))]) dX12_take_244 rfl rfl (by decide) rfl ?_
              refine zr_aload_n (pc' := 246) (i := 0) dX12_take_245 rfl rfl rfl ?_
              refine zr_dup (pc' := 247) dX12_take_246 rfl rfl ?_
              refine zr_get (pc' := 250) dX12_take_247 rfl ps_102 kd_102 fl_X12_247 kc_12 (gv_102_18 _) ?_
              refine zr_iconst (pc' := 251) dX12_take_250 rfl ?_
              refine zr_iadd (pc' := 252) dX12_take_251 rfl ?_
              refine zr_put (pc' := 255) dX12_take_252 rfl ps_102 kd_102 fl_X12_247 kc_12 rfl nf_102_18 rfl trivial (fun M27 hM1 => ?_)
              have h := h M27 hM1
              refine zr_aload_n (pc' := 256) (i := 0) dX12_take_255 rfl rfl rfl ?_
              refine zr_aload_n (pc' := 257) (i := 0) dX12_take_256 rfl rfl rfl ?_
              refine zr_iload_n (pc' := 258) (i := 1) dX12_take_257 rfl rfl rfl ?_
              refine zn_callV (pc' := 261) (args := [.inl (M26 103 ((M26 102 18).toNat))]) (st := [.inr (.inr 102)]) (st' := fun r28 => [.inl r28, .inr (.inr 102)]) dX12_take_258 rfl cv_X12_271 ⟨rfl, rfl, by decide, by decide⟩ rfl ps_102 kd_102 rfl rfl (Nat.le_of_ble_eq_true rfl) (fun _ => rfl) h ?_
              intro r28 M29 h
              refine zr_put (pc' := 264) dX12_take_261 rfl ps_102 kd_102 fl_X12_264 kc_12 rfl nf_102_20 rfl trivial (fun M30 hM1 => ?_)
              have h := h M30 hM1
              refine zr_aload_n (pc' := 265) (i := 0) dX12_take_264 rfl rfl rfl ?_
              refine zr_aload_n (pc' := 266) (i := 0) dX12_take_265 rfl rfl rfl ?_
              refine zr_get (pc' := 269) dX12_take_266 rfl ps_102 kd_102 fl_X12_264 kc_12 (gv_102_20 _) ?_
              refine zr_if_ge (tgt := 276) (pc' := 272) dX12_take_269 rfl rfl h.1 (fun hc => ?_) (fun hc => ?_)
              · have h := h.2.1 hc
                refine zr_iconst (pc' := 277) dX12_take_276 rfl ?_
                refine zr_put (pc' := 280) dX12_take_277 rfl ps_102 kd_102 fl_X12_254 kc_12 rfl nf_102_19 rfl trivial (fun M31 hM1 => ?_)
                have h := h M31 hM1
                refine zr_aload_n (pc' := 281) (i := 0) dX12_take_280 rfl rfl rfl ?_
                refine zr_get (pc' := 284) dX12_take_281 rfl ps_102 kd_102 fl_X12_264 kc_12 (gv_102_20 _) ?_
                refine zr_iconst (pc' := 285) dX12_take_284 rfl ?_
                refine zr_icmp_eq (tgt := 304) (pc' := 288) dX12_take_285 rfl rfl h.1 (zRd rfl) (fun hc => ?_) (fun hc => ?_)
                · have h := h.2.1 hc
                  refine zr_aload_n (pc' := 305) (i := 0) dX12_take_304 rfl rfl rfl ?_
                  refine zr_dup (pc' := 306) dX12_take_305 rfl rfl ?_
                  refine zr_get (pc' := 309) dX12_take_306 rfl ps_102 kd_102 fl_X12_247 kc_12 (gv_102_18 _) ?_
                  refine zr_iconst (pc' := 310) dX12_take_309 rfl ?_
                  refine zr_iadd (pc' := 311) dX12_take_310 rfl ?_
                  refine zr_put (pc' := 314) dX12_take_311 rfl ps_102 kd_102 fl_X12_247 kc_12 rfl nf_102_18 rfl trivial (fun M32 hM1 => ?_)
                  have h := h M32 hM1
                  exact zr_return (x := 0) dX12_take_314 rfl (Nat.le_refl _) (Nat.le_refl _) (And.intro rfl h)
                · have h := h.2.2 hc
                  refine zr_aload_n (pc' := 289) (i := 0) dX12_take_288 rfl rfl rfl ?_
                  refine zr_get (pc' := 292) dX12_take_289 rfl ps_102 kd_102 fl_X12_264 kc_12 (gv_102_20 _) ?_
                  refine zr_iconst (pc' := 293) dX12_take_292 rfl ?_
                  refine zr_icmp_eq (tgt := 304) (pc' := 296) dX12_take_293 rfl rfl h.1 (zRd rfl) (fun hc => ?_) (fun hc => ?_)
                  · have h := h.2.1 hc
                    refine zr_aload_n (pc' := 305) (i := 0) dX12_take_304 rfl rfl rfl ?_
                    refine zr_dup (pc' := 306) dX12_take_305 rfl rfl ?_
                    refine zr_get (pc' := 309) dX12_take_306 rfl ps_102 kd_102 fl_X12_247 kc_12 (gv_102_18 _) ?_
                    refine zr_iconst (pc' := 310) dX12_take_309 rfl ?_
                    refine zr_iadd (pc' := 311) dX12_take_310 rfl ?_
                    refine zr_put (pc' := 314) dX12_take_311 rfl ps_102 kd_102 fl_X12_247 kc_12 rfl nf_102_18 rfl trivial (fun M33 hM1 => ?_)
                    have h := h M33 hM1
                    exact zr_return (x := 0) dX12_take_314 rfl (Nat.le_refl _) (Nat.le_refl _) (And.intro rfl h)
                  · have h := h.2.2 hc
                    refine zr_aload_n (pc' := 297) (i := 0) dX12_take_296 rfl rfl rfl ?_
                    refine zr_get (pc' := 300) dX12_take_297 rfl ps_102 kd_102 fl_X12_264 kc_12 (gv_102_20 _) ?_
                    refine zr_iconst (pc' := 301) dX12_take_300 rfl ?_
                    refine zr_icmp_ne (tgt := 314) (pc' := 304) dX12_take_301 rfl rfl h.1 (zRd rfl) (fun hc => ?_) (fun hc => ?_)
                    · have h := h.2.1 hc
                      exact zr_return (x := 0) dX12_take_314 rfl (Nat.le_refl _) (Nat.le_refl _) (And.intro rfl h)
                    · have h := h.2.2 hc
                      refine zr_aload_n (pc' := 305) (i := 0) dX12_take_304 rfl rfl rfl ?_
                      refine zr_dup (pc' := 306) dX12_take_305 rfl rfl ?_
                      refine zr_get (pc' := 309) dX12_take_306 rfl ps_102 kd_102 fl_X12_247 kc_12 (gv_102_18 _) ?_
                      refine zr_iconst (pc' := 310) dX12_take_309 rfl ?_
                      refine zr_iadd (pc' := 311) dX12_take_310 rfl ?_
                      refine zr_put (pc' := 314) dX12_take_311 rfl ps_102 kd_102 fl_X12_247 kc_12 rfl nf_102_18 rfl trivial (fun M34 hM1 => ?_)
                      have h := h M34 hM1
                      exact zr_return (x := 0) dX12_take_314 rfl (Nat.le_refl _) (Nat.le_refl _) (And.intro rfl h)
              · have h := h.2.2 hc
                refine zr_iconst (pc' := 273) dX12_take_272 rfl ?_
                refine zr_goto (pc' := 277) dX12_take_273 rfl ?_
                refine zr_put (pc' := 280) dX12_take_277 rfl ps_102 kd_102 fl_X12_254 kc_12 rfl nf_102_19 rfl trivial (fun M35 hM1 => ?_)
                have h := h M35 hM1
                refine zr_aload_n (pc' := 281) (i := 0) dX12_take_280 rfl rfl rfl ?_
                refine zr_get (pc' := 284) dX12_take_281 rfl ps_102 kd_102 fl_X12_264 kc_12 (gv_102_20 _) ?_
                refine zr_iconst (pc' := 285) dX12_take_284 rfl ?_
                refine zr_icmp_eq (tgt := 304) (pc' := 288) dX12_take_285 rfl rfl h.1 (zRd rfl) (fun hc => ?_) (fun hc => ?_)
                · have h := h.2.1 hc
                  refine zr_aload_n (pc' := 305) (i := 0) dX12_take_304 rfl rfl rfl ?_
                  refine zr_dup (pc' := 306) dX12_take_305 rfl rfl ?_
                  refine zr_get (pc' := 309) dX12_take_306 rfl ps_102 kd_102 fl_X12_247 kc_12 (gv_102_18 _) ?_
                  refine zr_iconst (pc' := 310) dX12_take_309 rfl ?_
                  refine zr_iadd (pc' := 311) dX12_take_310 rfl ?_
                  refine zr_put (pc' := 314) dX12_take_311 rfl ps_102 kd_102 fl_X12_247 kc_12 rfl nf_102_18 rfl trivial (fun M36 hM1 => ?_)
                  have h := h M36 hM1
                  exact zr_return (x := 0) dX12_take_314 rfl (Nat.le_refl _) (Nat.le_refl _) (And.intro rfl h)
                · have h := h.2.2 hc
                  refine zr_aload_n (pc' := 289) (i := 0) dX12_take_288 rfl rfl rfl ?_
                  refine zr_get (pc' := 292) dX12_take_289 rfl ps_102 kd_102 fl_X12_264 kc_12 (gv_102_20 _) ?_
                  refine zr_iconst (pc' := 293) dX12_take_292 rfl ?_
                  refine zr_icmp_eq (tgt := 304) (pc' := 296) dX12_take_293 rfl rfl h.1 (zRd rfl) (fun hc => ?_) (fun hc => ?_)
                  · have h := h.2.1 hc
                    refine zr_aload_n (pc' := 305) (i := 0) dX12_take_304 rfl rfl rfl ?_
                    refine zr_dup (pc' := 306) dX12_take_305 rfl rfl ?_
                    refine zr_get (pc' := 309) dX12_take_306 rfl ps_102 kd_102 fl_X12_247 kc_12 (gv_102_18 _) ?_
                    refine zr_iconst (pc' := 310) dX12_take_309 rfl ?_
                    refine zr_iadd (pc' := 311) dX12_take_310 rfl ?_
                    refine zr_put (pc' := 314) dX12_take_311 rfl ps_102 kd_102 fl_X12_247 kc_12 rfl nf_102_18 rfl trivial (fun M37 hM1 => ?_)
                    have h := h M37 hM1
                    exact zr_return (x := 0) dX12_take_314 rfl (Nat.le_refl _) (Nat.le_refl _) (And.intro rfl h)
                  · have h := h.2.2 hc
                    refine zr_aload_n (pc' := 297) (i := 0) dX12_take_296 rfl rfl rfl ?_
                    refine zr_get (pc' := 300) dX12_take_297 rfl ps_102 kd_102 fl_X12_264 kc_12 (gv_102_20 _) ?_
                    refine zr_iconst (pc' := 301) dX12_take_300 rfl ?_
                    refine zr_icmp_ne (tgt := 314) (pc' := 304) dX12_take_301 rfl rfl h.1 (zRd rfl) (fun hc => ?_) (fun hc => ?_)
                    · have h := h.2.1 hc
                      exact zr_return (x := 0) dX12_take_314 rfl (Nat.le_refl _) (Nat.le_refl _) (And.intro rfl h)
                    · have h := h.2.2 hc
                      refine zr_aload_n (pc' := 305) (i := 0) dX12_take_304 rfl rfl rfl ?_
                      refine zr_dup (pc' := 306) dX12_take_305 rfl rfl ?_
                      refine zr_get (pc' := 309) dX12_take_306 rfl ps_102 kd_102 fl_X12_247 kc_12 (gv_102_18 _) ?_
                      refine zr_iconst (pc' := 310) dX12_take_309 rfl ?_
                      refine zr_iadd (pc' := 311) dX12_take_310 rfl ?_
                      refine zr_put (pc' := 314) dX12_take_311 rfl ps_102 kd_102 fl_X12_247 kc_12 rfl nf_102_18 rfl trivial (fun M38 hM1 => ?_)
                      have h := h M38 hM1
                      exact zr_return (x := 0) dX12_take_314 rfl (Nat.le_refl _) (Nat.le_refl _) (And.intro rfl h)
            · have h := h.2.2 hc
              refine zr_aload_n (pc' := 161) (i := 0) dX12_take_160 rfl rfl rfl ?_
              refine zr_iconst (pc' := 162) dX12_take_161 rfl ?_
              refine zr_put (pc' := 165) dX12_take_162 rfl ps_102 kd_102 fl_X12_254 kc_12 rfl nf_102_19 rfl trivial (fun M39 hM1 => ?_)
              have h := h M39 hM1
              refine zr_aload_n (pc' := 166) (i := 0) dX12_take_165 rfl rfl rfl ?_
              refine zr_iconst (pc' := 167) dX12_take_166 rfl ?_
              refine zr_put (pc' := 170) dX12_take_167 rfl ps_102 kd_102 fl_X12_264 kc_12 rfl nf_102_20 rfl trivial (fun M40 hM1 => ?_)
              have h := h M40 hM1
              obtain ⟨n', h⟩ := h
              exact zn_al ((key n').2.2  _ h) ⟨rfl, trivial⟩
          · have h := h.2.2 hc
            obtain ⟨n', h⟩ := h
            exact zn_al ((key n').2.1  _ h) ⟨rfl, trivial⟩
        · have h := h.2.2 hc
          refine zr_aload_n (pc' := 72) (i := 0) dX12_take_71 rfl rfl rfl ?_
          refine zr_iconst (pc' := 73) dX12_take_72 rfl ?_
          refine zr_put (pc' := 76) dX12_take_73 rfl ps_102 kd_102 fl_X12_254 kc_12 rfl nf_102_19 rfl trivial (fun M41 hM1 => ?_)
          have h := h M41 hM1
          refine zr_goto (pc' := 314) dX12_take_76 rfl ?_
          exact zr_return (x := 0) dX12_take_314 rfl (Nat.le_refl _) (Nat.le_refl _) (And.intro rfl h)
      · have h := h.2.2 hc
        refine zr_aload_n (pc' := 40) (i := 0) dX12_take_39 rfl rfl rfl ?_
        refine zr_dup (pc' := 41) dX12_take_40 rfl rfl ?_
        refine zr_get (pc' := 44) dX12_take_41 rfl ps_102 kd_102 fl_X12_247 kc_12 (gv_102_18 _) ?_
        refine zr_iconst (pc' := 45) dX12_take_44 rfl ?_
        refine zr_iadd (pc' := 46) dX12_take_45 rfl ?_
        refine zr_put (pc' := 49) dX12_take_46 rfl ps_102 kd_102 fl_X12_247 kc_12 rfl nf_102_18 rfl trivial (fun M42 hM1 => ?_)
        have h := h M42 hM1
        refine zr_goto (pc' := 0) dX12_take_49 rfl ?_
        obtain ⟨n', h⟩ := h
        exact zn_al ((key n').1  _ h) ⟨rfl, trivial⟩
set_option maxRecDepth 20000 in
theorem vcX12_isSign {E : zE} {M : zM} {Q : Int → zM → Prop} (l1 : Int)
    (h : ((zR (M 102 19)) ∧ ((¬ (M 102 19) = 3 → Q 0 M) ∧ ((M 102 19) = 3 → ((zR (M 102 20) ∧ zR l1) ∧ ((¬ (M 102 20) = l1 → Q 0 M) ∧ ((M 102 20) = l1 → Q 1 M)))))))
    : zP E mX12_isSign [.inr (.inr 102), .inl l1] M Q := by
  refine zP_of (by decide +kernel) rfl (Nat.le_of_ble_eq_true rfl) ?_
  show zA E zNN (0, 0) mX12_isSign 0 [(0, .inr (.inr 102)), (1, .inl l1)] [] M (zQ Q)
  refine zr_aload_n (pc' := 1) (i := 0) dX12_isSign_0 rfl rfl rfl ?_
  refine zr_get (pc' := 4) dX12_isSign_1 rfl ps_102 kd_102 fl_X12_254 kc_12 (gv_102_19 _) ?_
  refine zr_iconst (pc' := 5) dX12_isSign_4 rfl ?_
  refine zr_icmp_ne (tgt := 20) (pc' := 8) dX12_isSign_5 rfl rfl h.1 (zRd rfl) (fun hc => ?_) (fun hc => ?_)
  · have h := h.2.1 hc
    refine zr_iconst (pc' := 21) dX12_isSign_20 rfl ?_
    exact zr_ireturn dX12_isSign_21 rfl rfl (Or.inl rfl) (Nat.le_refl _) (Nat.le_refl _) (And.intro rfl h)
  · have h := h.2.2 hc
    refine zr_aload_n (pc' := 9) (i := 0) dX12_isSign_8 rfl rfl rfl ?_
    refine zr_get (pc' := 12) dX12_isSign_9 rfl ps_102 kd_102 fl_X12_264 kc_12 (gv_102_20 _) ?_
    refine zr_iload_n (pc' := 13) (i := 1) dX12_isSign_12 rfl rfl rfl ?_
    refine zr_icmp_ne (tgt := 20) (pc' := 16) dX12_isSign_13 rfl rfl h.1.1 h.1.2 (fun hc => ?_) (fun hc => ?_)
    · have h := h.2.1 hc
      refine zr_iconst (pc' := 21) dX12_isSign_20 rfl ?_
      exact zr_ireturn dX12_isSign_21 rfl rfl (Or.inl rfl) (Nat.le_refl _) (Nat.le_refl _) (And.intro rfl h)
    · have h := h.2.2 hc
      refine zr_iconst (pc' := 17) dX12_isSign_16 rfl ?_
      refine zr_goto (pc' := 21) dX12_isSign_17 rfl ?_
      exact zr_ireturn dX12_isSign_21 rfl rfl (Or.inr rfl) (Nat.le_refl _) (Nat.le_refl _) (And.intro rfl h)
set_option maxRecDepth 20000 in
theorem vcX12_weight {E : zE} {M : zM} {Q : Int → zM → Prop} (l0 : Int)
    (h : ((zR l0) ∧ ((¬ l0 = 100 → ((zR l0) ∧ ((¬ l0 = 14 → ((zR l0) ∧ ((¬ l0 = 13 → ((zR l0) ∧ ((¬ l0 = 12 → ((zR l0) ∧ ((7 ≤ l0 → ((zR l0) ∧ ((9 ≤ l0 → ((zR l0) ∧ ((11 ≤ l0 → Q 7 M) ∧ (l0 < 11 → Q 6 M)))) ∧ (l0 < 9 → Q 5 M)))) ∧ (l0 < 7 → Q 4 M)))) ∧ (l0 = 12 → Q 3 M)))) ∧ (l0 = 13 → Q 2 M)))) ∧ (l0 = 14 → Q 1 M)))) ∧ (l0 = 100 → Q 0 M))))
    : zP E mX12_weight [.inl l0] M Q := by
  refine zP_of (by decide +kernel) rfl (Nat.le_of_ble_eq_true rfl) ?_
  show zA E zNN (0, 0) mX12_weight 0 [(0, .inl l0)] [] M (zQ Q)
  refine zr_iload_n (pc' := 1) (i := 0) dX12_weight_0 rfl rfl rfl ?_
  refine zr_bipush (pc' := 3) dX12_weight_1 rfl rfl ?_
  refine zr_icmp_ne (tgt := 10) (pc' := 6) dX12_weight_3 rfl rfl h.1 (zRd rfl) (fun hc => ?_) (fun hc => ?_)
  · have h := h.2.1 hc
    refine zr_iload_n (pc' := 11) (i := 0) dX12_weight_10 rfl rfl rfl ?_
    refine zr_bipush (pc' := 13) dX12_weight_11 rfl rfl ?_
    refine zr_icmp_ne (tgt := 20) (pc' := 16) dX12_weight_13 rfl rfl h.1 (zRd rfl) (fun hc => ?_) (fun hc => ?_)
    · have h := h.2.1 hc
      refine zr_iload_n (pc' := 21) (i := 0) dX12_weight_20 rfl rfl rfl ?_
      refine zr_bipush (pc' := 23) dX12_weight_21 rfl rfl ?_
      refine zr_icmp_ne (tgt := 30) (pc' := 26) dX12_weight_23 rfl rfl h.1 (zRd rfl) (fun hc => ?_) (fun hc => ?_)
      · have h := h.2.1 hc
        refine zr_iload_n (pc' := 31) (i := 0) dX12_weight_30 rfl rfl rfl ?_
        refine zr_bipush (pc' := 33) dX12_weight_31 rfl rfl ?_
        refine zr_icmp_ne (tgt := 40) (pc' := 36) dX12_weight_33 rfl rfl h.1 (zRd rfl) (fun hc => ?_) (fun hc => ?_)
        · have h := h.2.1 hc
          refine zr_iload_n (pc' := 41) (i := 0) dX12_weight_40 rfl rfl rfl ?_
          refine zr_bipush (pc' := 43) dX12_weight_41 rfl rfl ?_
          refine zr_icmp_ge (tgt := 50) (pc' := 46) dX12_weight_43 rfl rfl h.1 (zRd rfl) (fun hc => ?_) (fun hc => ?_)
          · have h := h.2.1 hc
            refine zr_iload_n (pc' := 51) (i := 0) dX12_weight_50 rfl rfl rfl ?_
            refine zr_bipush (pc' := 53) dX12_weight_51 rfl rfl ?_
            refine zr_icmp_ge (tgt := 60) (pc' := 56) dX12_weight_53 rfl rfl h.1 (zRd rfl) (fun hc => ?_) (fun hc => ?_)
            · have h := h.2.1 hc
              refine zr_iload_n (pc' := 61) (i := 0) dX12_weight_60 rfl rfl rfl ?_
              refine zr_bipush (pc' := 63) dX12_weight_61 rfl rfl ?_
              refine zr_icmp_ge (tgt := 71) (pc' := 66) dX12_weight_63 rfl rfl h.1 (zRd rfl) (fun hc => ?_) (fun hc => ?_)
              · have h := h.2.1 hc
                refine zr_bipush (pc' := 73) dX12_weight_71 rfl rfl ?_
                exact zr_ireturn dX12_weight_73 rfl rfl trivial (Nat.le_refl _) (Nat.le_refl _) (And.intro rfl h)
              · have h := h.2.2 hc
                refine zr_bipush (pc' := 68) dX12_weight_66 rfl rfl ?_
                refine zr_goto (pc' := 73) dX12_weight_68 rfl ?_
                exact zr_ireturn dX12_weight_73 rfl rfl trivial (Nat.le_refl _) (Nat.le_refl _) (And.intro rfl h)
            · have h := h.2.2 hc
              refine zr_iconst (pc' := 57) dX12_weight_56 rfl ?_
              refine zr_goto (pc' := 73) dX12_weight_57 rfl ?_
              exact zr_ireturn dX12_weight_73 rfl rfl trivial (Nat.le_refl _) (Nat.le_refl _) (And.intro rfl h)
          · have h := h.2.2 hc
            refine zr_iconst (pc' := 47) dX12_weight_46 rfl ?_
            refine zr_goto (pc' := 73) dX12_weight_47 rfl ?_
            exact zr_ireturn dX12_weight_73 rfl rfl trivial (Nat.le_refl _) (Nat.le_refl _) (And.intro rfl h)
        · have h := h.2.2 hc
          refine zr_iconst (pc' := 37) dX12_weight_36 rfl ?_
          refine zr_goto (pc' := 73) dX12_weight_37 rfl ?_
          exact zr_ireturn dX12_weight_73 rfl rfl trivial (Nat.le_refl _) (Nat.le_refl _) (And.intro rfl h)
      · have h := h.2.2 hc
        refine zr_iconst (pc' := 27) dX12_weight_26 rfl ?_
        refine zr_goto (pc' := 73) dX12_weight_27 rfl ?_
        exact zr_ireturn dX12_weight_73 rfl rfl trivial (Nat.le_refl _) (Nat.le_refl _) (And.intro rfl h)
    · have h := h.2.2 hc
      refine zr_iconst (pc' := 17) dX12_weight_16 rfl ?_
      refine zr_goto (pc' := 73) dX12_weight_17 rfl ?_
      exact zr_ireturn dX12_weight_73 rfl rfl trivial (Nat.le_refl _) (Nat.le_refl _) (And.intro rfl h)
  · have h := h.2.2 hc
    refine zr_iconst (pc' := 7) dX12_weight_6 rfl ?_
    refine zr_goto (pc' := 73) dX12_weight_7 rfl ?_
    exact zr_ireturn dX12_weight_73 rfl rfl trivial (Nat.le_refl _) (Nat.le_refl _) (And.intro rfl h)
set_option maxRecDepth 20000 in
theorem vcX12_grown {E : zE} {M : zM} {Q : Int → zM → Prop} (l1 l2 : Int)
    (h : ((zR (M 102 38)) ∧ ((¬ (M 102 38) = 64 → (∀ M1, M1 = zup M 102 38 ((M 102 38) + 1) → (0 ≤ 64 + (M 102 38) ∧ 64 + (M 102 38) < 128) ∧ (∀ M2, M2 = zup M1 113 ((64 + (M 102 38)).toNat) l1 → (0 ≤ 64 + (M 102 38) ∧ 64 + (M 102 38) < 128) ∧ (∀ M3, M3 = zup M2 114 ((64 + (M 102 38)).toNat) (-1) → (0 ≤ 64 + (M 102 38) ∧ 64 + (M 102 38) < 128) ∧ (∀ M4, M4 = zup M3 115 ((64 + (M 102 38)).toNat) (-1) → (0 ≤ 64 + (M 102 38) ∧ 64 + (M 102 38) < 128) ∧ (∀ M5, M5 = zup M4 116 ((64 + (M 102 38)).toNat) l2 → Q (64 + (M 102 38)) M5)))))) ∧ ((M 102 38) = 64 → (zP E mX12_wrong [.inr (.inr 102), .inl 2] M (fun r6 M7 => Q (-1) M7))))))
    : zP E mX12_grown [.inr (.inr 102), .inl l1, .inl l2] M Q := by
  refine zP_of (by decide +kernel) rfl (Nat.le_of_ble_eq_true rfl) ?_
  show zA E zNN (0, 0) mX12_grown 0 [(0, .inr (.inr 102)), (1, .inl l1), (2, .inl l2)] [] M (zQ Q)
  refine zr_aload_n (pc' := 1) (i := 0) dX12_grown_0 rfl rfl rfl ?_
  refine zr_get (pc' := 4) dX12_grown_1 rfl ps_102 kd_102 fl_X12_275 kc_12 (gv_102_38 _) ?_
  refine zr_bipush (pc' := 6) dX12_grown_4 rfl rfl ?_
  refine zr_icmp_ne (tgt := 17) (pc' := 9) dX12_grown_6 rfl rfl h.1 (zRd rfl) (fun hc => ?_) (fun hc => ?_)
  · have h := h.2.1 hc
    refine zr_bipush (pc' := 19) dX12_grown_17 rfl rfl ?_
    refine zr_aload_n (pc' := 20) (i := 0) dX12_grown_19 rfl rfl rfl ?_
    refine zr_get (pc' := 23) dX12_grown_20 rfl ps_102 kd_102 fl_X12_275 kc_12 (gv_102_38 _) ?_
    refine zr_iadd (pc' := 24) dX12_grown_23 rfl ?_
    refine zr_istore_n (pc' := 25) (i := 3) (al' := [(3, .inl (64 + (M 102 38))), (0, .inr (.inr 102)), (1, .inl l1), (2, .inl l2)]) dX12_grown_24 rfl rfl (by decide) rfl ?_
    refine zr_aload_n (pc' := 26) (i := 0) dX12_grown_25 rfl rfl rfl ?_
    refine zr_dup (pc' := 27) dX12_grown_26 rfl rfl ?_
    refine zr_get (pc' := 30) dX12_grown_27 rfl ps_102 kd_102 fl_X12_275 kc_12 (gv_102_38 _) ?_
    refine zr_iconst (pc' := 31) dX12_grown_30 rfl ?_
    refine zr_iadd (pc' := 32) dX12_grown_31 rfl ?_
    refine zr_put (pc' := 35) dX12_grown_32 rfl ps_102 kd_102 fl_X12_275 kc_12 rfl nf_102_38 rfl trivial (fun M1 hM1 => ?_)
    have h := h M1 hM1
    refine zr_aload_n (pc' := 36) (i := 0) dX12_grown_35 rfl rfl rfl ?_
    refine zr_get (pc' := 39) dX12_grown_36 rfl ps_102 kd_102 fl_X12_45 kc_12 (gv_102_22 _) ?_
    refine zr_iload_n (pc' := 40) (i := 3) dX12_grown_39 rfl rfl rfl ?_
    refine zr_iload_n (pc' := 41) (i := 1) dX12_grown_40 rfl rfl rfl ?_
    refine zr_iast (pc' := 42) dX12_grown_41 rfl ps_113 kd_113 (by decide) h.1.1 h.1.2 (fun M2 hM1 => ?_)
    have h := h.2 M2 hM1
    refine zr_aload_n (pc' := 43) (i := 0) dX12_grown_42 rfl rfl rfl ?_
    refine zr_get (pc' := 46) dX12_grown_43 rfl ps_102 kd_102 fl_X12_48 kc_12 (gv_102_23 _) ?_
    refine zr_iload_n (pc' := 47) (i := 3) dX12_grown_46 rfl rfl rfl ?_
    refine zr_iconst (pc' := 48) dX12_grown_47 rfl ?_
    refine zr_iast (pc' := 49) dX12_grown_48 rfl ps_114 kd_114 (by decide) h.1.1 h.1.2 (fun M3 hM1 => ?_)
    have h := h.2 M3 hM1
    refine zr_aload_n (pc' := 50) (i := 0) dX12_grown_49 rfl rfl rfl ?_
    refine zr_get (pc' := 53) dX12_grown_50 rfl ps_102 kd_102 fl_X12_51 kc_12 (gv_102_24 _) ?_
    refine zr_iload_n (pc' := 54) (i := 3) dX12_grown_53 rfl rfl rfl ?_
    refine zr_iconst (pc' := 55) dX12_grown_54 rfl ?_
    refine zr_iast (pc' := 56) dX12_grown_55 rfl ps_115 kd_115 (by decide) h.1.1 h.1.2 (fun M4 hM1 => ?_)
    have h := h.2 M4 hM1
    refine zr_aload_n (pc' := 57) (i := 0) dX12_grown_56 rfl rfl rfl ?_
    refine zr_get (pc' := 60) dX12_grown_57 rfl ps_102 kd_102 fl_X12_54 kc_12 (gv_102_25 _) ?_
    refine zr_iload_n (pc' := 61) (i := 3) dX12_grown_60 rfl rfl rfl ?_
    refine zr_iload_n (pc' := 62) (i := 2) dX12_grown_61 rfl rfl rfl ?_
    refine zr_iast (pc' := 63) dX12_grown_62 rfl ps_116 kd_116 (by decide) h.1.1 h.1.2 (fun M5 hM1 => ?_)
    have h := h.2 M5 hM1
    refine zr_iload_n (pc' := 64) (i := 3) dX12_grown_63 rfl rfl rfl ?_
    exact zr_ireturn dX12_grown_64 rfl rfl trivial (Nat.le_refl _) (Nat.le_refl _) (And.intro rfl h)
  · have h := h.2.2 hc
    refine zr_aload_n (pc' := 10) (i := 0) dX12_grown_9 rfl rfl rfl ?_
    refine zr_iconst (pc' := 11) dX12_grown_10 rfl ?_
    refine zn_callV (pc' := 14) (args := [.inl 2]) (st := []) (st' := fun r6 => [.inl r6]) dX12_grown_11 rfl cv_X12_278 ⟨rfl, rfl, by decide, by decide⟩ rfl ps_102 kd_102 rfl rfl (Nat.le_of_ble_eq_true rfl) (fun _ => rfl) h ?_
    intro r6 M7 h
    refine zr_istore_n (pc' := 15) (i := 3) (al' := [(3, .inl r6), (0, .inr (.inr 102)), (1, .inl l1), (2, .inl l2)]) dX12_grown_14 rfl rfl (by decide) rfl ?_
    refine zr_iconst (pc' := 16) dX12_grown_15 rfl ?_
    exact zr_ireturn dX12_grown_16 rfl rfl trivial (Nat.le_refl _) (Nat.le_refl _) (And.intro rfl h)
set_option maxRecDepth 20000 in
theorem vcX12_done {E : zE} {M : zM} {Q : Int → zM → Prop} (l1 : Int)
    (h : (0 ≤ 64 + (M 102 39) ∧ 64 + (M 102 39) < 128) ∧ (∀ M1, M1 = zup M 119 ((64 + (M 102 39)).toNat) l1 → (∀ M2, M2 = zup M1 102 39 ((M1 102 39) + 1) → (0 ≤ M2 102 44 ∧ M2 102 44 < 100) ∧ (∀ M3, M3 = zup M2 125 ((M2 102 44).toNat) l1 → (∀ M4, M4 = zup M3 102 44 ((M3 102 44) + 1) → Q 0 M4)))))
    : zP E mX12_done [.inr (.inr 102), .inl l1] M Q := by
  refine zP_of (by decide +kernel) rfl (Nat.le_of_ble_eq_true rfl) ?_
  show zA E zNN (0, 0) mX12_done 0 [(0, .inr (.inr 102)), (1, .inl l1)] [] M (zQ Q)
  refine zr_aload_n (pc' := 1) (i := 0) dX12_done_0 rfl rfl rfl ?_
  refine zr_get (pc' := 4) dX12_done_1 rfl ps_102 kd_102 fl_X12_63 kc_12 (gv_102_28 _) ?_
  refine zr_bipush (pc' := 6) dX12_done_4 rfl rfl ?_
  refine zr_aload_n (pc' := 7) (i := 0) dX12_done_6 rfl rfl rfl ?_
  refine zr_get (pc' := 10) dX12_done_7 rfl ps_102 kd_102 fl_X12_281 kc_12 (gv_102_39 _) ?_
  refine zr_iadd (pc' := 11) dX12_done_10 rfl ?_
  refine zr_iload_n (pc' := 12) (i := 1) dX12_done_11 rfl rfl rfl ?_
  refine zr_iast (pc' := 13) dX12_done_12 rfl ps_119 kd_119 (by decide) h.1.1 h.1.2 (fun M1 hM1 => ?_)
  have h := h.2 M1 hM1
  refine zr_aload_n (pc' := 14) (i := 0) dX12_done_13 rfl rfl rfl ?_
  refine zr_dup (pc' := 15) dX12_done_14 rfl rfl ?_
  refine zr_get (pc' := 18) dX12_done_15 rfl ps_102 kd_102 fl_X12_281 kc_12 (gv_102_39 _) ?_
  refine zr_iconst (pc' := 19) dX12_done_18 rfl ?_
  refine zr_iadd (pc' := 20) dX12_done_19 rfl ?_
  refine zr_put (pc' := 23) dX12_done_20 rfl ps_102 kd_102 fl_X12_281 kc_12 rfl nf_102_39 rfl trivial (fun M2 hM1 => ?_)
  have h := h M2 hM1
  refine zr_aload_n (pc' := 24) (i := 0) dX12_done_23 rfl rfl rfl ?_
  refine zr_get (pc' := 27) dX12_done_24 rfl ps_102 kd_102 fl_X12_81 kc_12 (gv_102_43 _) ?_
  refine zr_aload_n (pc' := 28) (i := 0) dX12_done_27 rfl rfl rfl ?_
  refine zr_get (pc' := 31) dX12_done_28 rfl ps_102 kd_102 fl_X12_284 kc_12 (gv_102_44 _) ?_
  refine zr_iload_n (pc' := 32) (i := 1) dX12_done_31 rfl rfl rfl ?_
  refine zr_iast (pc' := 33) dX12_done_32 rfl ps_125 kd_125 (by decide) h.1.1 h.1.2 (fun M3 hM1 => ?_)
  have h := h.2 M3 hM1
  refine zr_aload_n (pc' := 34) (i := 0) dX12_done_33 rfl rfl rfl ?_
  refine zr_dup (pc' := 35) dX12_done_34 rfl rfl ?_
  refine zr_get (pc' := 38) dX12_done_35 rfl ps_102 kd_102 fl_X12_284 kc_12 (gv_102_44 _) ?_
  refine zr_iconst (pc' := 39) dX12_done_38 rfl ?_
  refine zr_iadd (pc' := 40) dX12_done_39 rfl ?_
  refine zr_put (pc' := 43) dX12_done_40 rfl ps_102 kd_102 fl_X12_284 kc_12 rfl nf_102_44 rfl trivial (fun M4 hM1 => ?_)
  have h := h M4 hM1
  exact zr_return (x := 0) dX12_done_43 rfl (Nat.le_refl _) (Nat.le_refl _) (And.intro rfl h)
set_option maxRecDepth 20000 in
theorem vcX12_drop {E : zE} {M : zM} {Q : Int → zM → Prop}
    (h : (∀ M1, M1 = zup M 102 44 ((M 102 44) - 1) → (0 ≤ M1 102 44 ∧ M1 102 44 < 100) ∧ Q (M1 125 ((M1 102 44).toNat)) M1))
    : zP E mX12_drop [.inr (.inr 102)] M Q := by
  refine zP_of (by decide +kernel) rfl (Nat.le_of_ble_eq_true rfl) ?_
  show zA E zNN (0, 0) mX12_drop 0 [(0, .inr (.inr 102))] [] M (zQ Q)
  refine zr_aload_n (pc' := 1) (i := 0) dX12_drop_0 rfl rfl rfl ?_
  refine zr_dup (pc' := 2) dX12_drop_1 rfl rfl ?_
  refine zr_get (pc' := 5) dX12_drop_2 rfl ps_102 kd_102 fl_X12_284 kc_12 (gv_102_44 _) ?_
  refine zr_iconst (pc' := 6) dX12_drop_5 rfl ?_
  refine zr_isub (pc' := 7) dX12_drop_6 rfl ?_
  refine zr_put (pc' := 10) dX12_drop_7 rfl ps_102 kd_102 fl_X12_284 kc_12 rfl nf_102_44 rfl trivial (fun M1 hM1 => ?_)
  have h := h M1 hM1
  refine zr_aload_n (pc' := 11) (i := 0) dX12_drop_10 rfl rfl rfl ?_
  refine zr_get (pc' := 14) dX12_drop_11 rfl ps_102 kd_102 fl_X12_81 kc_12 (gv_102_43 _) ?_
  refine zr_aload_n (pc' := 15) (i := 0) dX12_drop_14 rfl rfl rfl ?_
  refine zr_get (pc' := 18) dX12_drop_15 rfl ps_102 kd_102 fl_X12_284 kc_12 (gv_102_44 _) ?_
  refine zr_iald (pc' := 19) dX12_drop_18 rfl ps_125 kd_125 (by decide) h.1.1 h.1.2 ?_
  have h := h.2
  exact zr_ireturn dX12_drop_19 rfl rfl trivial (Nat.le_refl _) (Nat.le_refl _) (And.intro rfl h)
set_option maxRecDepth 20000 in
theorem vcX12_bind {E : zE} {M : zM} {Q : Int → zM → Prop} (l1 : Int) (I0 : Nat → Int → zM → Prop)
    (h : ((zR (M 102 42)) ∧ (((M 102 42) ≤ 0 → Q 0 M) ∧ (0 < (M 102 42) → (0 ≤ (M 102 42) - 1 ∧ (M 102 42) - 1 < 100) ∧ (zP E mX12_weight [.inl (M 123 (((M 102 42) - 1).toNat))] M (fun r1 M2 => ((zR r1 ∧ zR l1) ∧ ((r1 < l1 → Q 0 M2) ∧ (l1 ≤ r1 → (∀ M3, M3 = zup M2 102 42 ((M2 102 42) - 1) → (0 ≤ M3 102 42 ∧ M3 102 42 < 100) ∧ (0 ≤ M3 102 42 ∧ M3 102 42 < 100) ∧ ((zR (M3 123 ((M3 102 42).toNat))) ∧ (((M3 123 ((M3 102 42).toNat)) = 11 → (zP E mX12_drop [.inr (.inr 102)] M3 (fun r4 M5 => (0 ≤ M3 124 ((M3 102 42).toNat) ∧ M3 124 ((M3 102 42).toNat) < 128) ∧ (∀ M6, M6 = zup M5 114 ((M3 124 ((M3 102 42).toNat)).toNat) r4 → (zP E mX12_done [.inr (.inr 102), .inl (M3 124 ((M3 102 42).toNat))] M6 (fun r7 M8 => ∃ n', I0 n' l1 M8)))))) ∧ (¬ (M3 123 ((M3 102 42).toNat)) = 11 → (0 ≤ M3 102 42 ∧ M3 102 42 < 100) ∧ ((zR (M3 123 ((M3 102 42).toNat))) ∧ (((M3 123 ((M3 102 42).toNat)) = 12 → (zP E mX12_drop [.inr (.inr 102)] M3 (fun r9 M10 => (0 ≤ M3 124 ((M3 102 42).toNat) ∧ M3 124 ((M3 102 42).toNat) < 128) ∧ (∀ M11, M11 = zup M10 114 ((M3 124 ((M3 102 42).toNat)).toNat) r9 → (zP E mX12_done [.inr (.inr 102), .inl (M3 124 ((M3 102 42).toNat))] M11 (fun r12 M13 => ∃ n', I0 n' l1 M13)))))) ∧ (¬ (M3 123 ((M3 102 42).toNat)) = 12 → (zP E mX12_drop [.inr (.inr 102)] M3 (fun r14 M15 => (0 ≤ M3 124 ((M3 102 42).toNat) ∧ M3 124 ((M3 102 42).toNat) < 128) ∧ (∀ M16, M16 = zup M15 115 ((M3 124 ((M3 102 42).toNat)).toNat) r14 → (zP E mX12_drop [.inr (.inr 102)] M16 (fun r17 M18 => (0 ≤ M3 124 ((M3 102 42).toNat) ∧ M3 124 ((M3 102 42).toNat) < 128) ∧ (∀ M19, M19 = zup M18 114 ((M3 124 ((M3 102 42).toNat)).toNat) r17 → (zP E mX12_done [.inr (.inr 102), .inl (M3 124 ((M3 102 42).toNat))] M19 (fun r20 M21 => ∃ n', I0 n' l1 M21))))))))))))))))))))))))
    (h0 : ∀ (n : Nat) (l1 : Int) (M : zM), I0 n l1 M → ((zR (M 102 42)) ∧ (((M 102 42) ≤ 0 → Q 0 M) ∧ (0 < (M 102 42) → (0 ≤ (M 102 42) - 1 ∧ (M 102 42) - 1 < 100) ∧ (zP E mX12_weight [.inl (M 123 (((M 102 42) - 1).toNat))] M (fun r22 M23 => ((zR r22 ∧ zR l1) ∧ ((r22 < l1 → Q 0 M23) ∧ (l1 ≤ r22 → (∀ M24, M24 = zup M23 102 42 ((M23 102 42) - 1) → (0 ≤ M24 102 42 ∧ M24 102 42 < 100) ∧ (0 ≤ M24 102 42 ∧ M24 102 42 < 100) ∧ ((zR (M24 123 ((M24 102 42).toNat))) ∧ (((M24 123 ((M24 102 42).toNat)) = 11 → (zP E mX12_drop [.inr (.inr 102)] M24 (fun r25 M26 => (0 ≤ M24 124 ((M24 102 42).toNat) ∧ M24 124 ((M24 102 42).toNat) < 128) ∧ (∀ M27, M27 = zup M26 114 ((M24 124 ((M24 102 42).toNat)).toNat) r25 → (zP E mX12_done [.inr (.inr 102), .inl (M24 124 ((M24 102 42).toNat))] M27 (fun r28 M29 => ∃ n', n' < n ∧ I0 n' l1 M29)))))) ∧ (¬ (M24 123 ((M24 102 42).toNat)) = 11 → (0 ≤ M24 102 42 ∧ M24 102 42 < 100) ∧ ((zR (M24 123 ((M24 102 42).toNat))) ∧ (((M24 123 ((M24 102 42).toNat)) = 12 → (zP E mX12_drop [.inr (.inr 102)] M24 (fun r30 M31 => (0 ≤ M24 124 ((M24 102 42).toNat) ∧ M24 124 ((M24 102 42).toNat) < 128) ∧ (∀ M32, M32 = zup M31 114 ((M24 124 ((M24 102 42).toNat)).toNat) r30 → (zP E mX12_done [.inr (.inr 102), .inl (M24 124 ((M24 102 42).toNat))] M32 (fun r33 M34 => ∃ n', n' < n ∧ I0 n' l1 M34)))))) ∧ (¬ (M24 123 ((M24 102 42).toNat)) = 12 → (zP E mX12_drop [.inr (.inr 102)] M24 (fun r35 M36 => (0 ≤ M24 124 ((M24 102 42).toNat) ∧ M24 124 ((M24 102 42).toNat) < 128) ∧ (∀ M37, M37 = zup M36 115 ((M24 124 ((M24 102 42).toNat)).toNat) r35 → (zP E mX12_drop [.inr (.inr 102)] M37 (fun r38 M39 => (0 ≤ M24 124 ((M24 102 42).toNat) ∧ M24 124 ((M24 102 42).toNat) < 128) ∧ (∀ M40, M40 = zup M39 114 ((M24 124 ((M24 102 42).toNat)).toNat) r38 → (zP E mX12_done [.inr (.inr 102), .inl (M24 124 ((M24 102 42).toNat))] M40 (fun r41 M42 => ∃ n', n' < n ∧ I0 n' l1 M42))))))))))))))))))))))))
    : zP E mX12_bind [.inr (.inr 102), .inl l1] M Q := by
  have key : ∀ n : Nat, (∀ (l1 : Int) (M : zM), I0 n l1 M → zA E zNN (0, 0) mX12_bind 0 [(0, .inr (.inr 102)), (1, .inl l1)] [] M (zQ Q)) := by
    intro n
    induction n using Nat.strongRecOn with
    | ind n ih =>
      intro l1 M h
      have h := h0 n l1 M h
      refine zr_aload_n (pc' := 1) (i := 0) dX12_bind_0 rfl rfl rfl ?_
      refine zr_get (pc' := 4) dX12_bind_1 rfl ps_102 kd_102 fl_X12_287 kc_12 (gv_102_42 _) ?_
      refine zr_if_le (tgt := 101) (pc' := 7) dX12_bind_4 rfl rfl h.1 (fun hc => ?_) (fun hc => ?_)
      · have h := h.2.1 hc
        exact zr_return (x := 0) dX12_bind_101 rfl (Nat.le_refl _) (Nat.le_refl _) (And.intro rfl h)
      · have h := h.2.2 hc
        refine zr_aload_n (pc' := 8) (i := 0) dX12_bind_7 rfl rfl rfl ?_
        refine zr_get (pc' := 11) dX12_bind_8 rfl ps_102 kd_102 fl_X12_75 kc_12 (gv_102_40 _) ?_
        refine zr_aload_n (pc' := 12) (i := 0) dX12_bind_11 rfl rfl rfl ?_
        refine zr_get (pc' := 15) dX12_bind_12 rfl ps_102 kd_102 fl_X12_287 kc_12 (gv_102_42 _) ?_
        refine zr_iconst (pc' := 16) dX12_bind_15 rfl ?_
        refine zr_isub (pc' := 17) dX12_bind_16 rfl ?_
        refine zr_iald (pc' := 18) dX12_bind_17 rfl ps_123 kd_123 (by decide) h.1.1 h.1.2 ?_
        have h := h.2
        refine zn_callS (pc' := 21) (args := [.inl (M 123 (((M 102 42) - 1).toNat))]) (st := []) (st' := fun r22 => [.inl r22]) dX12_bind_18 rfl cs_X12_290 ⟨rfl, rfl, by decide, by decide⟩ rfl rfl rfl (Nat.le_of_ble_eq_true rfl) (fun _ => rfl) h ?_
        intro r22 M23 h
        refine zr_iload_n (pc' := 22) (i := 1) dX12_bind_21 rfl rfl rfl ?_
        refine zr_icmp_lt (tgt := 101) (pc' := 25) dX12_bind_22 rfl rfl h.1.1 h.1.2 (fun hc => ?_) (fun hc => ?_)
        · have h := h.2.1 hc
          exact zr_return (x := 0) dX12_bind_101 rfl (Nat.le_refl _) (Nat.le_refl _) (And.intro rfl h)
        · have h := h.2.2 hc
          refine zr_aload_n (pc' := 26) (i := 0) dX12_bind_25 rfl rfl rfl ?_
          refine zr_dup (pc' := 27) dX12_bind_26 rfl rfl ?_
          refine zr_get (pc' := 30) dX12_bind_27 rfl ps_102 kd_102 fl_X12_287 kc_12 (gv_102_42 _) ?_
          refine zr_iconst (pc' := 31) dX12_bind_30 rfl ?_
          refine zr_isub (pc' := 32) dX12_bind_31 rfl ?_
          refine zr_put (pc' := 35) dX12_bind_32 rfl ps_102 kd_102 fl_X12_287 kc_12 rfl nf_102_42 rfl trivial (fun M24 hM1 => ?_)
          have h := h M24 hM1
          refine zr_aload_n (pc' := 36) (i := 0) dX12_bind_35 rfl rfl rfl ?_
          refine zr_get (pc' := 39) dX12_bind_36 rfl ps_102 kd_102 fl_X12_78 kc_12 (gv_102_41 _) ?_
          refine zr_aload_n (pc' := 40) (i := 0) dX12_bind_39 rfl rfl rfl ?_
          refine zr_get (pc' := 43) dX12_bind_40 rfl ps_102 kd_102 fl_X12_287 kc_12 (gv_102_42 _) ?_
          refine zr_iald (pc' := 44) dX12_bind_43 rfl ps_124 kd_124 (by decide) h.1.1 h.1.2 ?_
          have h := h.2
          refine zr_istore_n (pc' := 45) (i := 2) (al' := [(2, .inl (M24 124 ((M24 102 42).toNat))), (0, .inr (.inr 102)), (1, .inl l1)]) dX12_bind_44 rfl rfl (by decide) rfl ?_
          refine zr_aload_n (pc' := 46) (i := 0) dX12_bind_45 rfl rfl rfl ?_
          refine zr_get (pc' := 49) dX12_bind_46 rfl ps_102 kd_102 fl_X12_75 kc_12 (gv_102_40 _) ?_
          refine zr_aload_n (pc' := 50) (i := 0) dX12_bind_49 rfl rfl rfl ?_
          refine zr_get (pc' := 53) dX12_bind_50 rfl ps_102 kd_102 fl_X12_287 kc_12 (gv_102_42 _) ?_
          refine zr_iald (pc' := 54) dX12_bind_53 rfl ps_123 kd_123 (by decide) h.1.1 h.1.2 ?_
          have h := h.2
          refine zr_bipush (pc' := 56) dX12_bind_54 rfl rfl ?_
          refine zr_icmp_eq (tgt := 83) (pc' := 59) dX12_bind_56 rfl rfl h.1 (zRd rfl) (fun hc => ?_) (fun hc => ?_)
          · have h := h.2.1 hc
            refine zr_aload_n (pc' := 84) (i := 0) dX12_bind_83 rfl rfl rfl ?_
            refine zr_get (pc' := 87) dX12_bind_84 rfl ps_102 kd_102 fl_X12_48 kc_12 (gv_102_23 _) ?_
            refine zr_iload_n (pc' := 88) (i := 2) dX12_bind_87 rfl rfl rfl ?_
            refine zr_aload_n (pc' := 89) (i := 0) dX12_bind_88 rfl rfl rfl ?_
            refine zn_callV (pc' := 92) (args := []) (st := [.inl (M24 124 ((M24 102 42).toNat)), .inr (.inr 114)]) (st' := fun r25 => [.inl r25, .inl (M24 124 ((M24 102 42).toNat)), .inr (.inr 114)]) dX12_bind_89 rfl cv_X12_293 ⟨rfl, rfl, by decide, by decide⟩ rfl ps_102 kd_102 rfl rfl (Nat.le_of_ble_eq_true rfl) (fun _ => rfl) h ?_
            intro r25 M26 h
            refine zr_iast (pc' := 93) dX12_bind_92 rfl ps_114 kd_114 (by decide) h.1.1 h.1.2 (fun M27 hM1 => ?_)
            have h := h.2 M27 hM1
            refine zr_aload_n (pc' := 94) (i := 0) dX12_bind_93 rfl rfl rfl ?_
            refine zr_iload_n (pc' := 95) (i := 2) dX12_bind_94 rfl rfl rfl ?_
            refine zn_callV (pc' := 98) (args := [.inl (M24 124 ((M24 102 42).toNat))]) (st := []) (st' := fun _ => []) dX12_bind_95 rfl cv_X12_297 ⟨rfl, rfl, by decide, by decide⟩ rfl ps_102 kd_102 rfl rfl (Nat.le_of_ble_eq_true rfl) (fun _ => rfl) h ?_
            intro r28 M29 h
            refine zr_goto (pc' := 0) dX12_bind_98 rfl ?_
            obtain ⟨n', hn, h⟩ := h
            exact zn_al ((ih n' hn) _ _ h) ⟨rfl, rfl, trivial⟩
          · have h := h.2.2 hc
            refine zr_aload_n (pc' := 60) (i := 0) dX12_bind_59 rfl rfl rfl ?_
            refine zr_get (pc' := 63) dX12_bind_60 rfl ps_102 kd_102 fl_X12_75 kc_12 (gv_102_40 _) ?_
            refine zr_aload_n (pc' := 64) (i := 0) dX12_bind_63 rfl rfl rfl ?_
            refine zr_get (pc' := 67) dX12_bind_64 rfl ps_102 kd_102 fl_X12_287 kc_12 (gv_102_42 _) ?_
            refine zr_iald (pc' := 68) dX12_bind_67 rfl ps_123 kd_123 (by decide) h.1.1 h.1.2 ?_
            have h := h.2
            refine zr_bipush (pc' := 70) dX12_bind_68 rfl rfl ?_
            refine zr_icmp_eq (tgt := 83) (pc' := 73) dX12_bind_70 rfl rfl h.1 (zRd rfl) (fun hc => ?_) (fun hc => ?_)
            · have h := h.2.1 hc
              refine zr_aload_n (pc' := 84) (i := 0) dX12_bind_83 rfl rfl rfl ?_
              refine zr_get (pc' := 87) dX12_bind_84 rfl ps_102 kd_102 fl_X12_48 kc_12 (gv_102_23 _) ?_
              refine zr_iload_n (pc' := 88) (i := 2) dX12_bind_87 rfl rfl rfl ?_
              refine zr_aload_n (pc' := 89) (i := 0) dX12_bind_88 rfl rfl rfl ?_
              refine zn_callV (pc' := 92) (args := []) (st := [.inl (M24 124 ((M24 102 42).toNat)), .inr (.inr 114)]) (st' := fun r30 => [.inl r30, .inl (M24 124 ((M24 102 42).toNat)), .inr (.inr 114)]) dX12_bind_89 rfl cv_X12_293 ⟨rfl, rfl, by decide, by decide⟩ rfl ps_102 kd_102 rfl rfl (Nat.le_of_ble_eq_true rfl) (fun _ => rfl) h ?_
              intro r30 M31 h
              refine zr_iast (pc' := 93) dX12_bind_92 rfl ps_114 kd_114 (by decide) h.1.1 h.1.2 (fun M32 hM1 => ?_)
              have h := h.2 M32 hM1
              refine zr_aload_n (pc' := 94) (i := 0) dX12_bind_93 rfl rfl rfl ?_
              refine zr_iload_n (pc' := 95) (i := 2) dX12_bind_94 rfl rfl rfl ?_
              refine zn_callV (pc' := 98) (args := [.inl (M24 124 ((M24 102 42).toNat))]) (st := []) (st' := fun _ => []) dX12_bind_95 rfl cv_X12_297 ⟨rfl, rfl, by decide, by decide⟩ rfl ps_102 kd_102 rfl rfl (Nat.le_of_ble_eq_true rfl) (fun _ => rfl) h ?_
              intro r33 M34 h
              refine zr_goto (pc' := 0) dX12_bind_98 rfl ?_
              obtain ⟨n', hn, h⟩ := h
              exact zn_al ((ih n' hn) _ _ h) ⟨rfl, rfl, trivial⟩
            · have h := h.2.2 hc
              refine zr_aload_n (pc' := 74) (i := 0) dX12_bind_73 rfl rfl rfl ?_
              refine zr_get (pc' := 77) dX12_bind_74 rfl ps_102 kd_102 fl_X12_51 kc_12 (gv_102_24 _) ?_
              refine zr_iload_n (pc' := 78) (i := 2) dX12_bind_77 rfl rfl rfl ?_
              refine zr_aload_n (pc' := 79) (i := 0) dX12_bind_78 rfl rfl rfl ?_
              refine zn_callV (pc' := 82) (args := []) (st := [.inl (M24 124 ((M24 102 42).toNat)), .inr (.inr 115)]) (st' := fun r35 => [.inl r35, .inl (M24 124 ((M24 102 42).toNat)), .inr (.inr 115)]) dX12_bind_79 rfl cv_X12_293 ⟨rfl, rfl, by decide, by decide⟩ rfl ps_102 kd_102 rfl rfl (Nat.le_of_ble_eq_true rfl) (fun _ => rfl) h ?_
              intro r35 M36 h
              refine zr_iast (pc' := 83) dX12_bind_82 rfl ps_115 kd_115 (by decide) h.1.1 h.1.2 (fun M37 hM1 => ?_)
              have h := h.2 M37 hM1
              refine zr_aload_n (pc' := 84) (i := 0) dX12_bind_83 rfl rfl rfl ?_
              refine zr_get (pc' := 87) dX12_bind_84 rfl ps_102 kd_102 fl_X12_48 kc_12 (gv_102_23 _) ?_
              refine zr_iload_n (pc' := 88) (i := 2) dX12_bind_87 rfl rfl rfl ?_
              refine zr_aload_n (pc' := 89) (i := 0) dX12_bind_88 rfl rfl rfl ?_
              refine zn_callV (pc' := 92) (args := []) (st := [.inl (M24 124 ((M24 102 42).toNat)), .inr (.inr 114)]) (st' := fun r38 => [.inl r38, .inl (M24 124 ((M24 102 42).toNat)), .inr (.inr 114)]) dX12_bind_89 rfl cv_X12_293 ⟨rfl, rfl, by decide, by decide⟩ rfl ps_102 kd_102 rfl rfl (Nat.le_of_ble_eq_true rfl) (fun _ => rfl) h ?_
              intro r38 M39 h
              refine zr_iast (pc' := 93) dX12_bind_92 rfl ps_114 kd_114 (by decide) h.1.1 h.1.2 (fun M40 hM1 => ?_)
              have h := h.2 M40 hM1
              refine zr_aload_n (pc' := 94) (i := 0) dX12_bind_93 rfl rfl rfl ?_
              refine zr_iload_n (pc' := 95) (i := 2) dX12_bind_94 rfl rfl rfl ?_
              refine zn_callV (pc' := 98) (args := [.inl (M24 124 ((M24 102 42).toNat))]) (st := []) (st' := fun _ => []) dX12_bind_95 rfl cv_X12_297 ⟨rfl, rfl, by decide, by decide⟩ rfl ps_102 kd_102 rfl rfl (Nat.le_of_ble_eq_true rfl) (fun _ => rfl) h ?_
              intro r41 M42 h
              refine zr_goto (pc' := 0) dX12_bind_98 rfl ?_
              obtain ⟨n', hn, h⟩ := h
              exact zn_al ((ih n' hn) _ _ h) ⟨rfl, rfl, trivial⟩
  refine zP_of (by decide +kernel) rfl (Nat.le_of_ble_eq_true rfl) ?_
  show zA E zNN (0, 0) mX12_bind 0 [(0, .inr (.inr 102)), (1, .inl l1)] [] M (zQ Q)
  refine zr_aload_n (pc' := 1) (i := 0) dX12_bind_0 rfl rfl rfl ?_
  refine zr_get (pc' := 4) dX12_bind_1 rfl ps_102 kd_102 fl_X12_287 kc_12 (gv_102_42 _) ?_
  refine zr_if_le (tgt := 101) (pc' := 7) dX12_bind_4 rfl rfl h.1 (fun hc => ?_) (fun hc => ?_)
  · have h := h.2.1 hc
    exact zr_return (x := 0) dX12_bind_101 rfl (Nat.le_refl _) (Nat.le_refl _) (And.intro rfl h)
  · have h := h.2.2 hc
    refine zr_aload_n (pc' := 8) (i := 0) dX12_bind_7 rfl rfl rfl ?_
    refine zr_get (pc' := 11) dX12_bind_8 rfl ps_102 kd_102 fl_X12_75 kc_12 (gv_102_40 _) ?_
    refine zr_aload_n (pc' := 12) (i := 0) dX12_bind_11 rfl rfl rfl ?_
    refine zr_get (pc' := 15) dX12_bind_12 rfl ps_102 kd_102 fl_X12_287 kc_12 (gv_102_42 _) ?_
    refine zr_iconst (pc' := 16) dX12_bind_15 rfl ?_
    refine zr_isub (pc' := 17) dX12_bind_16 rfl ?_
    refine zr_iald (pc' := 18) dX12_bind_17 rfl ps_123 kd_123 (by decide) h.1.1 h.1.2 ?_
    have h := h.2
    refine zn_callS (pc' := 21) (args := [.inl (M 123 (((M 102 42) - 1).toNat))]) (st := []) (st' := fun r1 => [.inl r1]) dX12_bind_18 rfl cs_X12_290 ⟨rfl, rfl, by decide, by decide⟩ rfl rfl rfl (Nat.le_of_ble_eq_true rfl) (fun _ => rfl) h ?_
    intro r1 M2 h
    refine zr_iload_n (pc' := 22) (i := 1) dX12_bind_21 rfl rfl rfl ?_
    refine zr_icmp_lt (tgt := 101) (pc' := 25) dX12_bind_22 rfl rfl h.1.1 h.1.2 (fun hc => ?_) (fun hc => ?_)
    · have h := h.2.1 hc
      exact zr_return (x := 0) dX12_bind_101 rfl (Nat.le_refl _) (Nat.le_refl _) (And.intro rfl h)
    · have h := h.2.2 hc
      refine zr_aload_n (pc' := 26) (i := 0) dX12_bind_25 rfl rfl rfl ?_
      refine zr_dup (pc' := 27) dX12_bind_26 rfl rfl ?_
      refine zr_get (pc' := 30) dX12_bind_27 rfl ps_102 kd_102 fl_X12_287 kc_12 (gv_102_42 _) ?_
      refine zr_iconst (pc' := 31) dX12_bind_30 rfl ?_
      refine zr_isub (pc' := 32) dX12_bind_31 rfl ?_
      refine zr_put (pc' := 35) dX12_bind_32 rfl ps_102 kd_102 fl_X12_287 kc_12 rfl nf_102_42 rfl trivial (fun M3 hM1 => ?_)
      have h := h M3 hM1
      refine zr_aload_n (pc' := 36) (i := 0) dX12_bind_35 rfl rfl rfl ?_
      refine zr_get (pc' := 39) dX12_bind_36 rfl ps_102 kd_102 fl_X12_78 kc_12 (gv_102_41 _) ?_
      refine zr_aload_n (pc' := 40) (i := 0) dX12_bind_39 rfl rfl rfl ?_
      refine zr_get (pc' := 43) dX12_bind_40 rfl ps_102 kd_102 fl_X12_287 kc_12 (gv_102_42 _) ?_
      refine zr_iald (pc' := 44) dX12_bind_43 rfl ps_124 kd_124 (by decide) h.1.1 h.1.2 ?_
      have h := h.2
      refine zr_istore_n (pc' := 45) (i := 2) (al' := [(2, .inl (M3 124 ((M3 102 42).toNat))), (0, .inr (.inr 102)), (1, .inl l1)]) dX12_bind_44 rfl rfl (by decide) rfl ?_
      refine zr_aload_n (pc' := 46) (i := 0) dX12_bind_45 rfl rfl rfl ?_
      refine zr_get (pc' := 49) dX12_bind_46 rfl ps_102 kd_102 fl_X12_75 kc_12 (gv_102_40 _) ?_
      refine zr_aload_n (pc' := 50) (i := 0) dX12_bind_49 rfl rfl rfl ?_
      refine zr_get (pc' := 53) dX12_bind_50 rfl ps_102 kd_102 fl_X12_287 kc_12 (gv_102_42 _) ?_
      refine zr_iald (pc' := 54) dX12_bind_53 rfl ps_123 kd_123 (by decide) h.1.1 h.1.2 ?_
      have h := h.2
      refine zr_bipush (pc' := 56) dX12_bind_54 rfl rfl ?_
      refine zr_icmp_eq (tgt := 83) (pc' := 59) dX12_bind_56 rfl rfl h.1 (zRd rfl) (fun hc => ?_) (fun hc => ?_)
      · have h := h.2.1 hc
        refine zr_aload_n (pc' := 84) (i := 0) dX12_bind_83 rfl rfl rfl ?_
        refine zr_get (pc' := 87) dX12_bind_84 rfl ps_102 kd_102 fl_X12_48 kc_12 (gv_102_23 _) ?_
        refine zr_iload_n (pc' := 88) (i := 2) dX12_bind_87 rfl rfl rfl ?_
        refine zr_aload_n (pc' := 89) (i := 0) dX12_bind_88 rfl rfl rfl ?_
        refine zn_callV (pc' := 92) (args := []) (st := [.inl (M3 124 ((M3 102 42).toNat)), .inr (.inr 114)]) (st' := fun r4 => [.inl r4, .inl (M3 124 ((M3 102 42).toNat)), .inr (.inr 114)]) dX12_bind_89 rfl cv_X12_293 ⟨rfl, rfl, by decide, by decide⟩ rfl ps_102 kd_102 rfl rfl (Nat.le_of_ble_eq_true rfl) (fun _ => rfl) h ?_
        intro r4 M5 h
        refine zr_iast (pc' := 93) dX12_bind_92 rfl ps_114 kd_114 (by decide) h.1.1 h.1.2 (fun M6 hM1 => ?_)
        have h := h.2 M6 hM1
        refine zr_aload_n (pc' := 94) (i := 0) dX12_bind_93 rfl rfl rfl ?_
        refine zr_iload_n (pc' := 95) (i := 2) dX12_bind_94 rfl rfl rfl ?_
        refine zn_callV (pc' := 98) (args := [.inl (M3 124 ((M3 102 42).toNat))]) (st := []) (st' := fun _ => []) dX12_bind_95 rfl cv_X12_297 ⟨rfl, rfl, by decide, by decide⟩ rfl ps_102 kd_102 rfl rfl (Nat.le_of_ble_eq_true rfl) (fun _ => rfl) h ?_
        intro r7 M8 h
        refine zr_goto (pc' := 0) dX12_bind_98 rfl ?_
        obtain ⟨n', h⟩ := h
        exact zn_al ((key n') _ _ h) ⟨rfl, rfl, trivial⟩
      · have h := h.2.2 hc
        refine zr_aload_n (pc' := 60) (i := 0) dX12_bind_59 rfl rfl rfl ?_
        refine zr_get (pc' := 63) dX12_bind_60 rfl ps_102 kd_102 fl_X12_75 kc_12 (gv_102_40 _) ?_
        refine zr_aload_n (pc' := 64) (i := 0) dX12_bind_63 rfl rfl rfl ?_
        refine zr_get (pc' := 67) dX12_bind_64 rfl ps_102 kd_102 fl_X12_287 kc_12 (gv_102_42 _) ?_
        refine zr_iald (pc' := 68) dX12_bind_67 rfl ps_123 kd_123 (by decide) h.1.1 h.1.2 ?_
        have h := h.2
        refine zr_bipush (pc' := 70) dX12_bind_68 rfl rfl ?_
        refine zr_icmp_eq (tgt := 83) (pc' := 73) dX12_bind_70 rfl rfl h.1 (zRd rfl) (fun hc => ?_) (fun hc => ?_)
        · have h := h.2.1 hc
          refine zr_aload_n (pc' := 84) (i := 0) dX12_bind_83 rfl rfl rfl ?_
          refine zr_get (pc' := 87) dX12_bind_84 rfl ps_102 kd_102 fl_X12_48 kc_12 (gv_102_23 _) ?_
          refine zr_iload_n (pc' := 88) (i := 2) dX12_bind_87 rfl rfl rfl ?_
          refine zr_aload_n (pc' := 89) (i := 0) dX12_bind_88 rfl rfl rfl ?_
          refine zn_callV (pc' := 92) (args := []) (st := [.inl (M3 124 ((M3 102 42).toNat)), .inr (.inr 114)]) (st' := fun r9 => [.inl r9, .inl (M3 124 ((M3 102 42).toNat)), .inr (.inr 114)]) dX12_bind_89 rfl cv_X12_293 ⟨rfl, rfl, by decide, by decide⟩ rfl ps_102 kd_102 rfl rfl (Nat.le_of_ble_eq_true rfl) (fun _ => rfl) h ?_
          intro r9 M10 h
          refine zr_iast (pc' := 93) dX12_bind_92 rfl ps_114 kd_114 (by decide) h.1.1 h.1.2 (fun M11 hM1 => ?_)
          have h := h.2 M11 hM1
          refine zr_aload_n (pc' := 94) (i := 0) dX12_bind_93 rfl rfl rfl ?_
          refine zr_iload_n (pc' := 95) (i := 2) dX12_bind_94 rfl rfl rfl ?_
          refine zn_callV (pc' := 98) (args := [.inl (M3 124 ((M3 102 42).toNat))]) (st := []) (st' := fun _ => []) dX12_bind_95 rfl cv_X12_297 ⟨rfl, rfl, by decide, by decide⟩ rfl ps_102 kd_102 rfl rfl (Nat.le_of_ble_eq_true rfl) (fun _ => rfl) h ?_
          intro r12 M13 h
          refine zr_goto (pc' := 0) dX12_bind_98 rfl ?_
          obtain ⟨n', h⟩ := h
          exact zn_al ((key n') _ _ h) ⟨rfl, rfl, trivial⟩
        · have h := h.2.2 hc
          refine zr_aload_n (pc' := 74) (i := 0) dX12_bind_73 rfl rfl rfl ?_
          refine zr_get (pc' := 77) dX12_bind_74 rfl ps_102 kd_102 fl_X12_51 kc_12 (gv_102_24 _) ?_
          refine zr_iload_n (pc' := 78) (i := 2) dX12_bind_77 rfl rfl rfl ?_
          refine zr_aload_n (pc' := 79) (i := 0) dX12_bind_78 rfl rfl rfl ?_
          refine zn_callV (pc' := 82) (args := []) (st := [.inl (M3 124 ((M3 102 42).toNat)), .inr (.inr 115)]) (st' := fun r14 => [.inl r14, .inl (M3 124 ((M3 102 42).toNat)), .inr (.inr 115)]) dX12_bind_79 rfl cv_X12_293 ⟨rfl, rfl, by decide, by decide⟩ rfl ps_102 kd_102 rfl rfl (Nat.le_of_ble_eq_true rfl) (fun _ => rfl) h ?_
          intro r14 M15 h
          refine zr_iast (pc' := 83) dX12_bind_82 rfl ps_115 kd_115 (by decide) h.1.1 h.1.2 (fun M16 hM1 => ?_)
          have h := h.2 M16 hM1
          refine zr_aload_n (pc' := 84) (i := 0) dX12_bind_83 rfl rfl rfl ?_
          refine zr_get (pc' := 87) dX12_bind_84 rfl ps_102 kd_102 fl_X12_48 kc_12 (gv_102_23 _) ?_
          refine zr_iload_n (pc' := 88) (i := 2) dX12_bind_87 rfl rfl rfl ?_
          refine zr_aload_n (pc' := 89) (i := 0) dX12_bind_88 rfl rfl rfl ?_
          refine zn_callV (pc' := 92) (args := []) (st := [.inl (M3 124 ((M3 102 42).toNat)), .inr (.inr 114)]) (st' := fun r17 => [.inl r17, .inl (M3 124 ((M3 102 42).toNat)), .inr (.inr 114)]) dX12_bind_89 rfl cv_X12_293 ⟨rfl, rfl, by decide, by decide⟩ rfl ps_102 kd_102 rfl rfl (Nat.le_of_ble_eq_true rfl) (fun _ => rfl) h ?_
          intro r17 M18 h
          refine zr_iast (pc' := 93) dX12_bind_92 rfl ps_114 kd_114 (by decide) h.1.1 h.1.2 (fun M19 hM1 => ?_)
          have h := h.2 M19 hM1
          refine zr_aload_n (pc' := 94) (i := 0) dX12_bind_93 rfl rfl rfl ?_
          refine zr_iload_n (pc' := 95) (i := 2) dX12_bind_94 rfl rfl rfl ?_
          refine zn_callV (pc' := 98) (args := [.inl (M3 124 ((M3 102 42).toNat))]) (st := []) (st' := fun _ => []) dX12_bind_95 rfl cv_X12_297 ⟨rfl, rfl, by decide, by decide⟩ rfl ps_102 kd_102 rfl rfl (Nat.le_of_ble_eq_true rfl) (fun _ => rfl) h ?_
          intro r20 M21 h
          refine zr_goto (pc' := 0) dX12_bind_98 rfl ?_
          obtain ⟨n', h⟩ := h
          exact zn_al ((key n') _ _ h) ⟨rfl, rfl, trivial⟩
set_option maxRecDepth 20000 in
theorem vcX12_waitFor {E : zE} {M : zM} {Q : Int → zM → Prop} (l1 l2 : Int)
    (h : (0 ≤ M 102 42 ∧ M 102 42 < 100) ∧ (∀ M1, M1 = zup M 123 ((M 102 42).toNat) l1 → (0 ≤ M1 102 42 ∧ M1 102 42 < 100) ∧ (∀ M2, M2 = zup M1 124 ((M1 102 42).toNat) l2 → (∀ M3, M3 = zup M2 102 42 ((M2 102 42) + 1) → Q 0 M3))))
    : zP E mX12_waitFor [.inr (.inr 102), .inl l1, .inl l2] M Q := by
  refine zP_of (by decide +kernel) rfl (Nat.le_of_ble_eq_true rfl) ?_
  show zA E zNN (0, 0) mX12_waitFor 0 [(0, .inr (.inr 102)), (1, .inl l1), (2, .inl l2)] [] M (zQ Q)
  refine zr_aload_n (pc' := 1) (i := 0) dX12_waitFor_0 rfl rfl rfl ?_
  refine zr_get (pc' := 4) dX12_waitFor_1 rfl ps_102 kd_102 fl_X12_75 kc_12 (gv_102_40 _) ?_
  refine zr_aload_n (pc' := 5) (i := 0) dX12_waitFor_4 rfl rfl rfl ?_
  refine zr_get (pc' := 8) dX12_waitFor_5 rfl ps_102 kd_102 fl_X12_287 kc_12 (gv_102_42 _) ?_
  refine zr_iload_n (pc' := 9) (i := 1) dX12_waitFor_8 rfl rfl rfl ?_
  refine zr_iast (pc' := 10) dX12_waitFor_9 rfl ps_123 kd_123 (by decide) h.1.1 h.1.2 (fun M1 hM1 => ?_)
  have h := h.2 M1 hM1
  refine zr_aload_n (pc' := 11) (i := 0) dX12_waitFor_10 rfl rfl rfl ?_
  refine zr_get (pc' := 14) dX12_waitFor_11 rfl ps_102 kd_102 fl_X12_78 kc_12 (gv_102_41 _) ?_
  refine zr_aload_n (pc' := 15) (i := 0) dX12_waitFor_14 rfl rfl rfl ?_
  refine zr_get (pc' := 18) dX12_waitFor_15 rfl ps_102 kd_102 fl_X12_287 kc_12 (gv_102_42 _) ?_
  refine zr_iload_n (pc' := 19) (i := 2) dX12_waitFor_18 rfl rfl rfl ?_
  refine zr_iast (pc' := 20) dX12_waitFor_19 rfl ps_124 kd_124 (by decide) h.1.1 h.1.2 (fun M2 hM1 => ?_)
  have h := h.2 M2 hM1
  refine zr_aload_n (pc' := 21) (i := 0) dX12_waitFor_20 rfl rfl rfl ?_
  refine zr_dup (pc' := 22) dX12_waitFor_21 rfl rfl ?_
  refine zr_get (pc' := 25) dX12_waitFor_22 rfl ps_102 kd_102 fl_X12_287 kc_12 (gv_102_42 _) ?_
  refine zr_iconst (pc' := 26) dX12_waitFor_25 rfl ?_
  refine zr_iadd (pc' := 27) dX12_waitFor_26 rfl ?_
  refine zr_put (pc' := 30) dX12_waitFor_27 rfl ps_102 kd_102 fl_X12_287 kc_12 rfl nf_102_42 rfl trivial (fun M3 hM1 => ?_)
  have h := h M3 hM1
  exact zr_return (x := 0) dX12_waitFor_30 rfl (Nat.le_refl _) (Nat.le_refl _) (And.intro rfl h)
set_option maxRecDepth 20000 in
theorem vcX12_ofOne {E : zE} {M : zM} {Q : Int → zM → Prop} (l1 : Int)
    (h : (zP E mX12_grown [.inr (.inr 102), .inl l1, .inl 0] M (fun r1 M2 => ((zR r1) ∧ ((0 ≤ r1 → (zP E mX12_waitFor [.inr (.inr 102), .inl l1, .inl r1] M2 (fun r3 M4 => ((zR l1) ∧ ((¬ l1 = 11 → (zP E mX12_take [.inr (.inr 102)] M4 (fun r5 M6 => Q 1 M6))) ∧ (l1 = 11 → (∀ M7, M7 = zup M4 102 49 0 → (zP E mX12_take [.inr (.inr 102)] M7 (fun r8 M9 => Q 1 M9))))))))) ∧ (r1 < 0 → Q 0 M2))))))
    : zP E mX12_ofOne [.inr (.inr 102), .inl l1] M Q := by
  refine zP_of (by decide +kernel) rfl (Nat.le_of_ble_eq_true rfl) ?_
  show zA E zNN (0, 0) mX12_ofOne 0 [(0, .inr (.inr 102)), (1, .inl l1)] [] M (zQ Q)
  refine zr_aload_n (pc' := 1) (i := 0) dX12_ofOne_0 rfl rfl rfl ?_
  refine zr_iload_n (pc' := 2) (i := 1) dX12_ofOne_1 rfl rfl rfl ?_
  refine zr_iconst (pc' := 3) dX12_ofOne_2 rfl ?_
  refine zn_callV (pc' := 6) (args := [.inl l1, .inl 0]) (st := []) (st' := fun r1 => [.inl r1]) dX12_ofOne_3 rfl cv_X12_300 ⟨rfl, rfl, by decide, by decide⟩ rfl ps_102 kd_102 rfl rfl (Nat.le_of_ble_eq_true rfl) (fun _ => rfl) h ?_
  intro r1 M2 h
  refine zr_istore_n (pc' := 7) (i := 2) (al' := [(2, .inl r1), (0, .inr (.inr 102)), (1, .inl l1)]) dX12_ofOne_6 rfl rfl (by decide) rfl ?_
  refine zr_iload_n (pc' := 8) (i := 2) dX12_ofOne_7 rfl rfl rfl ?_
  refine zr_if_ge (tgt := 13) (pc' := 11) dX12_ofOne_8 rfl rfl h.1 (fun hc => ?_) (fun hc => ?_)
  · have h := h.2.1 hc
    refine zr_aload_n (pc' := 14) (i := 0) dX12_ofOne_13 rfl rfl rfl ?_
    refine zr_iload_n (pc' := 15) (i := 1) dX12_ofOne_14 rfl rfl rfl ?_
    refine zr_iload_n (pc' := 16) (i := 2) dX12_ofOne_15 rfl rfl rfl ?_
    refine zn_callV (pc' := 19) (args := [.inl l1, .inl r1]) (st := []) (st' := fun _ => []) dX12_ofOne_16 rfl cv_X12_303 ⟨rfl, rfl, by decide, by decide⟩ rfl ps_102 kd_102 rfl rfl (Nat.le_of_ble_eq_true rfl) (fun _ => rfl) h ?_
    intro r3 M4 h
    refine zr_iload_n (pc' := 20) (i := 1) dX12_ofOne_19 rfl rfl rfl ?_
    refine zr_bipush (pc' := 22) dX12_ofOne_20 rfl rfl ?_
    refine zr_icmp_ne (tgt := 30) (pc' := 25) dX12_ofOne_22 rfl rfl h.1 (zRd rfl) (fun hc => ?_) (fun hc => ?_)
    · have h := h.2.1 hc
      refine zr_aload_n (pc' := 31) (i := 0) dX12_ofOne_30 rfl rfl rfl ?_
      refine zn_callV (pc' := 34) (args := []) (st := []) (st' := fun _ => []) dX12_ofOne_31 rfl cv_X12_311 ⟨rfl, rfl, by decide, by decide⟩ rfl ps_102 kd_102 rfl rfl (Nat.le_of_ble_eq_true rfl) (fun _ => rfl) h ?_
      intro r5 M6 h
      refine zr_iconst (pc' := 35) dX12_ofOne_34 rfl ?_
      exact zr_ireturn dX12_ofOne_35 rfl rfl (Or.inr rfl) (Nat.le_refl _) (Nat.le_refl _) (And.intro rfl h)
    · have h := h.2.2 hc
      refine zr_aload_n (pc' := 26) (i := 0) dX12_ofOne_25 rfl rfl rfl ?_
      refine zr_iconst (pc' := 27) dX12_ofOne_26 rfl ?_
      refine zr_put (pc' := 30) dX12_ofOne_27 rfl ps_102 kd_102 fl_X12_307 kc_12 rfl nf_102_49 rfl (Or.inl rfl) (fun M7 hM1 => ?_)
      have h := h M7 hM1
      refine zr_aload_n (pc' := 31) (i := 0) dX12_ofOne_30 rfl rfl rfl ?_
      refine zn_callV (pc' := 34) (args := []) (st := []) (st' := fun _ => []) dX12_ofOne_31 rfl cv_X12_311 ⟨rfl, rfl, by decide, by decide⟩ rfl ps_102 kd_102 rfl rfl (Nat.le_of_ble_eq_true rfl) (fun _ => rfl) h ?_
      intro r8 M9 h
      refine zr_iconst (pc' := 35) dX12_ofOne_34 rfl ?_
      exact zr_ireturn dX12_ofOne_35 rfl rfl (Or.inr rfl) (Nat.le_refl _) (Nat.le_refl _) (And.intro rfl h)
  · have h := h.2.2 hc
    refine zr_iconst (pc' := 12) dX12_ofOne_11 rfl ?_
    exact zr_ireturn dX12_ofOne_12 rfl rfl (Or.inl rfl) (Nat.le_refl _) (Nat.le_refl _) (And.intro rfl h)
