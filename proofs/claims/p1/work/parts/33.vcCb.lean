set_option maxRecDepth 20000 in
theorem vcX2_pushRound {E : zE} {M : zM} {Q : Int → zM → Prop} (I27 : Nat → Int → Int → Int → Int → zM → Prop)
    (h : ((0 : Int) ≤ 0 ∧ (0 : Int) ≤ 0 ∧ (0 : Int) ≤ 202 ∧ (0 + 202 : Int) ≤ 202 ∧ (0 + 202 : Int) ≤ 202) ∧ (∀ M1, M1 = zcopy M 58 0 63 0 202 → ∃ n', I27 n' 0 200 0 0 M1))
    (h27 : ∀ (n : Nat) (l1 l2 l3 l4 : Int) (M : zM), I27 n l1 l2 l3 l4 M → ((zR l4) ∧ ((1000000 ≤ l4 → Q l1 M) ∧ (l4 < 1000000 → ((zR l2) ∧ ((¬ l2 = 201 → (zP E mX2_deeperArc [.inr (.inr 57), .inl l2] M (fun r2 M3 => ((zR l2) ∧ ((¬ l2 = 201 → ((zR r2) ∧ ((r2 = (-1) → ((zR l3) ∧ ((l3 ≤ 0 → Q l1 M3) ∧ (0 < l3 → (0 ≤ l2 ∧ l2 < 202) ∧ (∀ M4, M4 = zup M3 62 l2.toNat (-1) → (0 ≤ l3 + -1 ∧ l3 + -1 < 202) ∧ (0 ≤ zxor (M4 65 ((l3 + -1).toNat)) 1 ∧ zxor (M4 65 ((l3 + -1).toNat)) 1 < 1088) ∧ ∃ n', n' < n ∧ I27 n' l1 (M4 60 ((zxor (M4 65 ((l3 + -1).toNat)) 1).toNat)) (l3 + -1) (l4 + 1) M4))))) ∧ (¬ r2 = (-1) → ((zR l3) ∧ ((202 ≤ l3 → ((zR l3) ∧ ((l3 ≤ 0 → Q l1 M3) ∧ (0 < l3 → (0 ≤ l2 ∧ l2 < 202) ∧ (∀ M5, M5 = zup M3 62 l2.toNat (-1) → (0 ≤ l3 + -1 ∧ l3 + -1 < 202) ∧ (0 ≤ zxor (M5 65 ((l3 + -1).toNat)) 1 ∧ zxor (M5 65 ((l3 + -1).toNat)) 1 < 1088) ∧ ∃ n', n' < n ∧ I27 n' l1 (M5 60 ((zxor (M5 65 ((l3 + -1).toNat)) 1).toNat)) (l3 + -1) (l4 + 1) M5))))) ∧ (l3 < 202 → (0 ≤ l3 ∧ l3 < 202) ∧ (∀ M6, M6 = zup M3 65 l3.toNat r2 → (0 ≤ r2 ∧ r2 < 1088) ∧ ∃ n', n' < n ∧ I27 n' l1 (M6 60 r2.toNat) (l3 + 1) (l4 + 1) M6)))))))) ∧ (l2 = 201 → (zP E mX2_pushAlong [.inr (.inr 57), .inl l3] M3 (fun r7 M8 => ∃ n', n' < n ∧ I27 n' (l1 + r7) 200 0 (l4 + 1) M8)))))))) ∧ (l2 = 201 → ((zR l2) ∧ ((¬ l2 = 201 → ((zR l3) ∧ ((l3 ≤ 0 → Q l1 M) ∧ (0 < l3 → (0 ≤ l2 ∧ l2 < 202) ∧ (∀ M9, M9 = zup M 62 l2.toNat (-1) → (0 ≤ l3 + -1 ∧ l3 + -1 < 202) ∧ (0 ≤ zxor (M9 65 ((l3 + -1).toNat)) 1 ∧ zxor (M9 65 ((l3 + -1).toNat)) 1 < 1088) ∧ ∃ n', n' < n ∧ I27 n' l1 (M9 60 ((zxor (M9 65 ((l3 + -1).toNat)) 1).toNat)) (l3 + -1) (l4 + 1) M9))))) ∧ (l2 = 201 → (zP E mX2_pushAlong [.inr (.inr 57), .inl l3] M (fun r10 M11 => ∃ n', n' < n ∧ I27 n' (l1 + r10) 200 0 (l4 + 1) M11))))))))))))
    : zP E mX2_pushRound [.inr (.inr 57)] M Q := by
  have key : ∀ n : Nat, (∀ (l1 l2 l3 l4 : Int) (M : zM), I27 n l1 l2 l3 l4 M → zA E zNN (0, 0) mX2_pushRound 27 [(0, .inr (.inr 57)), (1, .inl l1), (2, .inl l2), (3, .inl l3), (4, .inl l4)] [] M (zQ Q)) := by
    intro n
    induction n using Nat.strongRecOn with
    | ind n ih =>
      intro l1 l2 l3 l4 M h
      have h := h27 n l1 l2 l3 l4 M h
      refine zr_iload (pc' := 29) dX2_pushRound_27 rfl rfl ?_
      refine zr_ldc (pc' := 31) (x := 1000000) dX2_pushRound_29 rfl ci_X2_61 ?_
      refine zr_icmp_ge (tgt := 145) (pc' := 34) dX2_pushRound_31 rfl rfl h.1 (zRd rfl) (fun hc => ?_) (fun hc => ?_)
      · have h := h.2.1 hc
        refine zr_iload_n (pc' := 146) (i := 1) dX2_pushRound_145 rfl rfl rfl ?_
        exact zr_ireturn dX2_pushRound_146 rfl rfl trivial (Nat.le_refl _) (Nat.le_refl _) (And.intro rfl h)
      · have h := h.2.2 hc
        refine zr_iload_n (pc' := 35) (i := 2) dX2_pushRound_34 rfl rfl rfl ?_
        refine zr_sipush (pc' := 38) dX2_pushRound_35 rfl rfl ?_
        refine zr_icmp_ne (tgt := 45) (pc' := 41) dX2_pushRound_38 rfl rfl h.1 (zRd rfl) (fun hc => ?_) (fun hc => ?_)
        · have h := h.2.1 hc
          refine zr_aload_n (pc' := 46) (i := 0) dX2_pushRound_45 rfl rfl rfl ?_
          refine zr_iload_n (pc' := 47) (i := 2) dX2_pushRound_46 rfl rfl rfl ?_
          refine zn_callV (pc' := 50) (args := [.inl l2]) (st := []) (st' := fun r2 => [.inl r2]) dX2_pushRound_47 rfl cv_X2_72 ⟨rfl, rfl, by decide, by decide⟩ rfl ps_57 kd_57 rfl rfl (Nat.le_of_ble_eq_true rfl) (fun _ => rfl) h ?_
          intro r2 M3 h
          refine zr_istore (pc' := 52) (al' := [(5, .inl r2), (0, .inr (.inr 57)), (1, .inl l1), (2, .inl l2), (3, .inl l3), (4, .inl l4)]) dX2_pushRound_50 rfl (by decide) rfl ?_
          refine zr_iload_n (pc' := 53) (i := 2) dX2_pushRound_52 rfl rfl rfl ?_
          refine zr_sipush (pc' := 56) dX2_pushRound_53 rfl rfl ?_
          refine zr_icmp_ne (tgt := 76) (pc' := 59) dX2_pushRound_56 rfl rfl h.1 (zRd rfl) (fun hc => ?_) (fun hc => ?_)
          · have h := h.2.1 hc
            refine zr_iload (pc' := 78) dX2_pushRound_76 rfl rfl ?_
            refine zr_iconst (pc' := 79) dX2_pushRound_78 rfl ?_
            refine zr_icmp_eq (tgt := 111) (pc' := 82) dX2_pushRound_79 rfl rfl h.1 (zRd rfl) (fun hc => ?_) (fun hc => ?_)
            · have h := h.2.1 hc
              refine zr_iload_n (pc' := 112) (i := 3) dX2_pushRound_111 rfl rfl rfl ?_
              refine zr_if_le (tgt := 145) (pc' := 115) dX2_pushRound_112 rfl rfl h.1 (fun hc => ?_) (fun hc => ?_)
              · have h := h.2.1 hc
                refine zr_iload_n (pc' := 146) (i := 1) dX2_pushRound_145 rfl rfl rfl ?_
                exact zr_ireturn dX2_pushRound_146 rfl rfl trivial (Nat.le_refl _) (Nat.le_refl _) (And.intro rfl h)
              · have h := h.2.2 hc
                refine zr_aload_n (pc' := 116) (i := 0) dX2_pushRound_115 rfl rfl rfl ?_
                refine zr_get (pc' := 119) dX2_pushRound_116 rfl ps_57 kd_57 fl_X2_28 kc_2 (gv_57_5 _) ?_
                refine zr_iload_n (pc' := 120) (i := 2) dX2_pushRound_119 rfl rfl rfl ?_
                refine zr_iconst (pc' := 121) dX2_pushRound_120 rfl ?_
                refine zr_iast (pc' := 122) dX2_pushRound_121 rfl ps_62 kd_62 (by decide) h.1.1 h.1.2 (fun M4 hM1 => ?_)
                have h := h.2 M4 hM1
                refine zr_iinc (pc' := 125) (al' := [(3, .inl (l3 + -1)), (5, .inl r2), (0, .inr (.inr 57)), (1, .inl l1), (2, .inl l2), (4, .inl l4)]) dX2_pushRound_122 rfl rfl (by decide) rfl ?_
                refine zr_aload_n (pc' := 126) (i := 0) dX2_pushRound_125 rfl rfl rfl ?_
                refine zr_get (pc' := 129) dX2_pushRound_126 rfl ps_57 kd_57 fl_X2_22 kc_2 (gv_57_2 _) ?_
                refine zr_aload_n (pc' := 130) (i := 0) dX2_pushRound_129 rfl rfl rfl ?_
                refine zr_get (pc' := 133) dX2_pushRound_130 rfl ps_57 kd_57 fl_X2_37 kc_2 (gv_57_8 _) ?_
                refine zr_iload_n (pc' := 134) (i := 3) dX2_pushRound_133 rfl rfl rfl ?_
                refine zr_iald (pc' := 135) dX2_pushRound_134 rfl ps_65 kd_65 (by decide) h.1.1 h.1.2 ?_
                have h := h.2
                refine zr_iconst (pc' := 136) dX2_pushRound_135 rfl ?_
                refine zr_ixor (pc' := 137) dX2_pushRound_136 rfl ?_
                refine zr_iald (pc' := 138) dX2_pushRound_137 rfl ps_60 kd_60 (by decide) h.1.1 h.1.2 ?_
                have h := h.2
                refine zr_istore_n (pc' := 139) (i := 2) (al' := [(2, .inl (M4 60 ((zxor (M4 65 ((l3 + -1).toNat)) 1).toNat))), (3, .inl (l3 + -1)), (5, .inl r2), (0, .inr (.inr 57)), (1, .inl l1), (4, .inl l4)]) dX2_pushRound_138 rfl rfl (by decide) rfl ?_
                refine zr_iinc (pc' := 142) (al' := [(4, .inl (l4 + 1)), (2, .inl (M4 60 ((zxor (M4 65 ((l3 + -1).toNat)) 1).toNat))), (3, .inl (l3 + -1)), (5, .inl r2), (0, .inr (.inr 57)), (1, .inl l1)]) dX2_pushRound_139 rfl rfl (by decide) rfl ?_
                refine zr_goto (pc' := 27) dX2_pushRound_142 rfl ?_
                obtain ⟨n', hn, h⟩ := h
                exact zn_al ((ih n' hn) _ _ _ _ _ h) ⟨rfl, rfl, rfl, rfl, rfl, trivial⟩
            · have h := h.2.2 hc
              refine zr_iload_n (pc' := 83) (i := 3) dX2_pushRound_82 rfl rfl rfl ?_
              refine zr_sipush (pc' := 86) dX2_pushRound_83 rfl rfl ?_
              refine zr_icmp_ge (tgt := 111) (pc' := 89) dX2_pushRound_86 rfl rfl h.1 (zRd rfl) (fun hc => ?_) (fun hc => ?_)
              · have h := h.2.1 hc
                refine zr_iload_n (pc' := 112) (i := 3) dX2_pushRound_111 rfl rfl rfl ?_
                refine zr_if_le (tgt := 145) (pc' := 115) dX2_pushRound_112 rfl rfl h.1 (fun hc => ?_) (fun hc => ?_)
                · have h := h.2.1 hc
                  refine zr_iload_n (pc' := 146) (i := 1) dX2_pushRound_145 rfl rfl rfl ?_
                  exact zr_ireturn dX2_pushRound_146 rfl rfl trivial (Nat.le_refl _) (Nat.le_refl _) (And.intro rfl h)
                · have h := h.2.2 hc
                  refine zr_aload_n (pc' := 116) (i := 0) dX2_pushRound_115 rfl rfl rfl ?_
                  refine zr_get (pc' := 119) dX2_pushRound_116 rfl ps_57 kd_57 fl_X2_28 kc_2 (gv_57_5 _) ?_
                  refine zr_iload_n (pc' := 120) (i := 2) dX2_pushRound_119 rfl rfl rfl ?_
                  refine zr_iconst (pc' := 121) dX2_pushRound_120 rfl ?_
                  refine zr_iast (pc' := 122) dX2_pushRound_121 rfl ps_62 kd_62 (by decide) h.1.1 h.1.2 (fun M5 hM1 => ?_)
                  have h := h.2 M5 hM1
                  refine zr_iinc (pc' := 125) (al' := [(3, .inl (l3 + -1)), (5, .inl r2), (0, .inr (.inr 57)), (1, .inl l1), (2, .inl l2), (4, .inl l4)]) dX2_pushRound_122 rfl rfl (by decide) rfl ?_
                  refine zr_aload_n (pc' := 126) (i := 0) dX2_pushRound_125 rfl rfl rfl ?_
                  refine zr_get (pc' := 129) dX2_pushRound_126 rfl ps_57 kd_57 fl_X2_22 kc_2 (gv_57_2 _) ?_
                  refine zr_aload_n (pc' := 130) (i := 0) dX2_pushRound_129 rfl rfl rfl ?_
                  refine zr_get (pc' := 133) dX2_pushRound_130 rfl ps_57 kd_57 fl_X2_37 kc_2 (gv_57_8 _) ?_
                  refine zr_iload_n (pc' := 134) (i := 3) dX2_pushRound_133 rfl rfl rfl ?_
                  refine zr_iald (pc' := 135) dX2_pushRound_134 rfl ps_65 kd_65 (by decide) h.1.1 h.1.2 ?_
                  have h := h.2
                  refine zr_iconst (pc' := 136) dX2_pushRound_135 rfl ?_
                  refine zr_ixor (pc' := 137) dX2_pushRound_136 rfl ?_
                  refine zr_iald (pc' := 138) dX2_pushRound_137 rfl ps_60 kd_60 (by decide) h.1.1 h.1.2 ?_
                  have h := h.2
                  refine zr_istore_n (pc' := 139) (i := 2) (al' := [(2, .inl (M5 60 ((zxor (M5 65 ((l3 + -1).toNat)) 1).toNat))), (3, .inl (l3 + -1)), (5, .inl r2), (0, .inr (.inr 57)), (1, .inl l1), (4, .inl l4)]) dX2_pushRound_138 rfl rfl (by decide) rfl ?_
                  refine zr_iinc (pc' := 142) (al' := [(4, .inl (l4 + 1)), (2, .inl (M5 60 ((zxor (M5 65 ((l3 + -1).toNat)) 1).toNat))), (3, .inl (l3 + -1)), (5, .inl r2), (0, .inr (.inr 57)), (1, .inl l1)]) dX2_pushRound_139 rfl rfl (by decide) rfl ?_
                  refine zr_goto (pc' := 27) dX2_pushRound_142 rfl ?_
                  obtain ⟨n', hn, h⟩ := h
                  exact zn_al ((ih n' hn) _ _ _ _ _ h) ⟨rfl, rfl, rfl, rfl, rfl, trivial⟩
              · have h := h.2.2 hc
                refine zr_aload_n (pc' := 90) (i := 0) dX2_pushRound_89 rfl rfl rfl ?_
                refine zr_get (pc' := 93) dX2_pushRound_90 rfl ps_57 kd_57 fl_X2_37 kc_2 (gv_57_8 _) ?_
                refine zr_iload_n (pc' := 94) (i := 3) dX2_pushRound_93 rfl rfl rfl ?_
                refine zr_iload (pc' := 96) dX2_pushRound_94 rfl rfl ?_
                refine zr_iast (pc' := 97) dX2_pushRound_96 rfl ps_65 kd_65 (by decide) h.1.1 h.1.2 (fun M6 hM1 => ?_)
                have h := h.2 M6 hM1
                refine zr_iinc (pc' := 100) (al' := [(3, .inl (l3 + 1)), (5, .inl r2), (0, .inr (.inr 57)), (1, .inl l1), (2, .inl l2), (4, .inl l4)]) dX2_pushRound_97 rfl rfl (by decide) rfl ?_
                refine zr_aload_n (pc' := 101) (i := 0) dX2_pushRound_100 rfl rfl rfl ?_
                refine zr_get (pc' := 104) dX2_pushRound_101 rfl ps_57 kd_57 fl_X2_22 kc_2 (gv_57_2 _) ?_
                refine zr_iload (pc' := 106) dX2_pushRound_104 rfl rfl ?_
                refine zr_iald (pc' := 107) dX2_pushRound_106 rfl ps_60 kd_60 (by decide) h.1.1 h.1.2 ?_
                have h := h.2
                refine zr_istore_n (pc' := 108) (i := 2) (al' := [(2, .inl (M6 60 r2.toNat)), (3, .inl (l3 + 1)), (5, .inl r2), (0, .inr (.inr 57)), (1, .inl l1), (4, .inl l4)]) dX2_pushRound_107 rfl rfl (by decide) rfl ?_
                refine zr_goto (pc' := 139) dX2_pushRound_108 rfl ?_
                refine zr_iinc (pc' := 142) (al' := [(4, .inl (l4 + 1)), (2, .inl (M6 60 r2.toNat)), (3, .inl (l3 + 1)), (5, .inl r2), (0, .inr (.inr 57)), (1, .inl l1)]) dX2_pushRound_139 rfl rfl (by decide) rfl ?_
                refine zr_goto (pc' := 27) dX2_pushRound_142 rfl ?_
                obtain ⟨n', hn, h⟩ := h
                exact zn_al ((ih n' hn) _ _ _ _ _ h) ⟨rfl, rfl, rfl, rfl, rfl, trivial⟩
          · have h := h.2.2 hc
            refine zr_iload_n (pc' := 60) (i := 1) dX2_pushRound_59 rfl rfl rfl ?_
            refine zr_aload_n (pc' := 61) (i := 0) dX2_pushRound_60 rfl rfl rfl ?_
            refine zr_iload_n (pc' := 62) (i := 3) dX2_pushRound_61 rfl rfl rfl ?_
            refine zn_callV (pc' := 65) (args := [.inl l3]) (st := [.inl l1]) (st' := fun r7 => [.inl r7, .inl l1]) dX2_pushRound_62 rfl cv_X2_76 ⟨rfl, rfl, by decide, by decide⟩ rfl ps_57 kd_57 rfl rfl (Nat.le_of_ble_eq_true rfl) (fun _ => rfl) h ?_
            intro r7 M8 h
            refine zr_iadd (pc' := 66) dX2_pushRound_65 rfl ?_
            refine zr_istore_n (pc' := 67) (i := 1) (al' := [(1, .inl (l1 + r7)), (5, .inl r2), (0, .inr (.inr 57)), (2, .inl l2), (3, .inl l3), (4, .inl l4)]) dX2_pushRound_66 rfl rfl (by decide) rfl ?_
            refine zr_sipush (pc' := 70) dX2_pushRound_67 rfl rfl ?_
            refine zr_istore_n (pc' := 71) (i := 2) (al' := [(2, .inl 200), (1, .inl (l1 + r7)), (5, .inl r2), (0, .inr (.inr 57)), (3, .inl l3), (4, .inl l4)]) dX2_pushRound_70 rfl rfl (by decide) rfl ?_
            refine zr_iconst (pc' := 72) dX2_pushRound_71 rfl ?_
            refine zr_istore_n (pc' := 73) (i := 3) (al' := [(3, .inl 0), (2, .inl 200), (1, .inl (l1 + r7)), (5, .inl r2), (0, .inr (.inr 57)), (4, .inl l4)]) dX2_pushRound_72 rfl rfl (by decide) rfl ?_
            refine zr_goto (pc' := 139) dX2_pushRound_73 rfl ?_
            refine zr_iinc (pc' := 142) (al' := [(4, .inl (l4 + 1)), (3, .inl 0), (2, .inl 200), (1, .inl (l1 + r7)), (5, .inl r2), (0, .inr (.inr 57))]) dX2_pushRound_139 rfl rfl (by decide) rfl ?_
            refine zr_goto (pc' := 27) dX2_pushRound_142 rfl ?_
            obtain ⟨n', hn, h⟩ := h
            exact zn_al ((ih n' hn) _ _ _ _ _ h) ⟨rfl, rfl, rfl, rfl, rfl, trivial⟩
        · have h := h.2.2 hc
          refine zr_iconst (pc' := 42) dX2_pushRound_41 rfl ?_
          refine zr_goto (pc' := 50) dX2_pushRound_42 rfl ?_
          refine zr_istore (pc' := 52) (al' := [(5, .inl (-1)), (0, .inr (.inr 57)), (1, .inl l1), (2, .inl l2), (3, .inl l3), (4, .inl l4)]) dX2_pushRound_50 rfl (by decide) rfl ?_
          refine zr_iload_n (pc' := 53) (i := 2) dX2_pushRound_52 rfl rfl rfl ?_
          refine zr_sipush (pc' := 56) dX2_pushRound_53 rfl rfl ?_
          refine zr_icmp_ne (tgt := 76) (pc' := 59) dX2_pushRound_56 rfl rfl h.1 (zRd rfl) (fun hc => ?_) (fun hc => ?_)
          · have h := h.2.1 hc
            refine zr_iload (pc' := 78) dX2_pushRound_76 rfl rfl ?_
            refine zr_iconst (pc' := 79) dX2_pushRound_78 rfl ?_
            refine zr_icmp_eq (tgt := 111) (pc' := 82) dX2_pushRound_79 rfl rfl (zRd rfl) (zRd rfl) (fun _ => ?_) (fun hc => absurd hc (by decide))
            refine zr_iload_n (pc' := 112) (i := 3) dX2_pushRound_111 rfl rfl rfl ?_
            refine zr_if_le (tgt := 145) (pc' := 115) dX2_pushRound_112 rfl rfl h.1 (fun hc => ?_) (fun hc => ?_)
            · have h := h.2.1 hc
              refine zr_iload_n (pc' := 146) (i := 1) dX2_pushRound_145 rfl rfl rfl ?_
              exact zr_ireturn dX2_pushRound_146 rfl rfl trivial (Nat.le_refl _) (Nat.le_refl _) (And.intro rfl h)
            · have h := h.2.2 hc
              refine zr_aload_n (pc' := 116) (i := 0) dX2_pushRound_115 rfl rfl rfl ?_
              refine zr_get (pc' := 119) dX2_pushRound_116 rfl ps_57 kd_57 fl_X2_28 kc_2 (gv_57_5 _) ?_
              refine zr_iload_n (pc' := 120) (i := 2) dX2_pushRound_119 rfl rfl rfl ?_
              refine zr_iconst (pc' := 121) dX2_pushRound_120 rfl ?_
              refine zr_iast (pc' := 122) dX2_pushRound_121 rfl ps_62 kd_62 (by decide) h.1.1 h.1.2 (fun M9 hM1 => ?_)
              have h := h.2 M9 hM1
              refine zr_iinc (pc' := 125) (al' := [(3, .inl (l3 + -1)), (5, .inl (-1)), (0, .inr (.inr 57)), (1, .inl l1), (2, .inl l2), (4, .inl l4)]) dX2_pushRound_122 rfl rfl (by decide) rfl ?_
              refine zr_aload_n (pc' := 126) (i := 0) dX2_pushRound_125 rfl rfl rfl ?_
              refine zr_get (pc' := 129) dX2_pushRound_126 rfl ps_57 kd_57 fl_X2_22 kc_2 (gv_57_2 _) ?_
              refine zr_aload_n (pc' := 130) (i := 0) dX2_pushRound_129 rfl rfl rfl ?_
              refine zr_get (pc' := 133) dX2_pushRound_130 rfl ps_57 kd_57 fl_X2_37 kc_2 (gv_57_8 _) ?_
              refine zr_iload_n (pc' := 134) (i := 3) dX2_pushRound_133 rfl rfl rfl ?_
              refine zr_iald (pc' := 135) dX2_pushRound_134 rfl ps_65 kd_65 (by decide) h.1.1 h.1.2 ?_
              have h := h.2
              refine zr_iconst (pc' := 136) dX2_pushRound_135 rfl ?_
              refine zr_ixor (pc' := 137) dX2_pushRound_136 rfl ?_
              refine zr_iald (pc' := 138) dX2_pushRound_137 rfl ps_60 kd_60 (by decide) h.1.1 h.1.2 ?_
              have h := h.2
              refine zr_istore_n (pc' := 139) (i := 2) (al' := [(2, .inl (M9 60 ((zxor (M9 65 ((l3 + -1).toNat)) 1).toNat))), (3, .inl (l3 + -1)), (5, .inl (-1)), (0, .inr (.inr 57)), (1, .inl l1), (4, .inl l4)]) dX2_pushRound_138 rfl rfl (by decide) rfl ?_
              refine zr_iinc (pc' := 142) (al' := [(4, .inl (l4 + 1)), (2, .inl (M9 60 ((zxor (M9 65 ((l3 + -1).toNat)) 1).toNat))), (3, .inl (l3 + -1)), (5, .inl (-1)), (0, .inr (.inr 57)), (1, .inl l1)]) dX2_pushRound_139 rfl rfl (by decide) rfl ?_
              refine zr_goto (pc' := 27) dX2_pushRound_142 rfl ?_
              obtain ⟨n', hn, h⟩ := h
              exact zn_al ((ih n' hn) _ _ _ _ _ h) ⟨rfl, rfl, rfl, rfl, rfl, trivial⟩
          · have h := h.2.2 hc
            refine zr_iload_n (pc' := 60) (i := 1) dX2_pushRound_59 rfl rfl rfl ?_
            refine zr_aload_n (pc' := 61) (i := 0) dX2_pushRound_60 rfl rfl rfl ?_
            refine zr_iload_n (pc' := 62) (i := 3) dX2_pushRound_61 rfl rfl rfl ?_
            refine zn_callV (pc' := 65) (args := [.inl l3]) (st := [.inl l1]) (st' := fun r10 => [.inl r10, .inl l1]) dX2_pushRound_62 rfl cv_X2_76 ⟨rfl, rfl, by decide, by decide⟩ rfl ps_57 kd_57 rfl rfl (Nat.le_of_ble_eq_true rfl) (fun _ => rfl) h ?_
            intro r10 M11 h
            refine zr_iadd (pc' := 66) dX2_pushRound_65 rfl ?_
            refine zr_istore_n (pc' := 67) (i := 1) (al' := [(1, .inl (l1 + r10)), (5, .inl (-1)), (0, .inr (.inr 57)), (2, .inl l2), (3, .inl l3), (4, .inl l4)]) dX2_pushRound_66 rfl rfl (by decide) rfl ?_
            refine zr_sipush (pc' := 70) dX2_pushRound_67 rfl rfl ?_
            refine zr_istore_n (pc' := 71) (i := 2) (al' := [(2, .inl 200), (1, .inl (l1 + r10)), (5, .inl (-1)), (0, .inr (.inr 57)), (3, .inl l3), (4, .inl l4)]) dX2_pushRound_70 rfl rfl (by decide) rfl ?_
            refine zr_iconst (pc' := 72) dX2_pushRound_71 rfl ?_
            refine zr_istore_n (pc' := 73) (i := 3) (al' := [(3, .inl 0), (2, .inl 200), (1, .inl (l1 + r10)), (5, .inl (-1)), (0, .inr (.inr 57)), (4, .inl l4)]) dX2_pushRound_72 rfl rfl (by decide) rfl ?_
            refine zr_goto (pc' := 139) dX2_pushRound_73 rfl ?_
            refine zr_iinc (pc' := 142) (al' := [(4, .inl (l4 + 1)), (3, .inl 0), (2, .inl 200), (1, .inl (l1 + r10)), (5, .inl (-1)), (0, .inr (.inr 57))]) dX2_pushRound_139 rfl rfl (by decide) rfl ?_
            refine zr_goto (pc' := 27) dX2_pushRound_142 rfl ?_
            obtain ⟨n', hn, h⟩ := h
            exact zn_al ((ih n' hn) _ _ _ _ _ h) ⟨rfl, rfl, rfl, rfl, rfl, trivial⟩
  refine zP_of (by decide +kernel) rfl (Nat.le_of_ble_eq_true rfl) ?_
  show zA E zNN (0, 0) mX2_pushRound 0 [(0, .inr (.inr 57))] [] M (zQ Q)
  refine zr_aload_n (pc' := 1) (i := 0) dX2_pushRound_0 rfl rfl rfl ?_
  refine zr_get (pc' := 4) dX2_pushRound_1 rfl ps_57 kd_57 fl_X2_15 kc_2 (gv_57_0 _) ?_
  refine zr_iconst (pc' := 5) dX2_pushRound_4 rfl ?_
  refine zr_aload_n (pc' := 6) (i := 0) dX2_pushRound_5 rfl rfl rfl ?_
  refine zr_get (pc' := 9) dX2_pushRound_6 rfl ps_57 kd_57 fl_X2_31 kc_2 (gv_57_6 _) ?_
  refine zr_iconst (pc' := 10) dX2_pushRound_9 rfl ?_
  refine zr_sipush (pc' := 13) dX2_pushRound_10 rfl rfl ?_
  refine zr_copy (pc' := 16) dX2_pushRound_13 rfl ps_58 kd_58 ps_63 kd_63 (by decide) (by decide) ac_X2_66 (by decide) (Nat.le_of_ble_eq_true rfl) h.1.1 h.1.2.1 h.1.2.2.1 h.1.2.2.2.1 h.1.2.2.2.2 (fun M1 hM1 => ?_)
  have h := h.2 M1 hM1
  refine zr_iconst (pc' := 17) dX2_pushRound_16 rfl ?_
  refine zr_istore_n (pc' := 18) (i := 1) (al' := [(1, .inl 0), (0, .inr (.inr 57))]) dX2_pushRound_17 rfl rfl (by decide) rfl ?_
  refine zr_sipush (pc' := 21) dX2_pushRound_18 rfl rfl ?_
  refine zr_istore_n (pc' := 22) (i := 2) (al' := [(2, .inl 200), (1, .inl 0), (0, .inr (.inr 57))]) dX2_pushRound_21 rfl rfl (by decide) rfl ?_
  refine zr_iconst (pc' := 23) dX2_pushRound_22 rfl ?_
  refine zr_istore_n (pc' := 24) (i := 3) (al' := [(3, .inl 0), (2, .inl 200), (1, .inl 0), (0, .inr (.inr 57))]) dX2_pushRound_23 rfl rfl (by decide) rfl ?_
  refine zr_iconst (pc' := 25) dX2_pushRound_24 rfl ?_
  refine zr_istore (pc' := 27) (al' := [(4, .inl 0), (3, .inl 0), (2, .inl 200), (1, .inl 0), (0, .inr (.inr 57))]) dX2_pushRound_25 rfl (by decide) rfl ?_
  obtain ⟨n', h⟩ := h
  exact zn_al ((key n') _ _ _ _ _ h) ⟨rfl, rfl, rfl, rfl, rfl, trivial⟩
set_option maxRecDepth 20000 in
theorem vcX2_deeperArc {E : zE} {M : zM} {Q : Int → zM → Prop} (l1 : Int) (I9 : Nat → Int → Int → Int → zM → Prop)
    (h : (0 ≤ l1 ∧ l1 < 202) ∧ ∃ n', I9 n' l1 (M 63 l1.toNat) 0 M)
    (h9 : ∀ (n : Nat) (l1 l2 l3 : Int) (M : zM), I9 n l1 l2 l3 M → ((zR l3 ∧ zR (M 57 4)) ∧ (((M 57 4) ≤ l3 → (0 ≤ l1 ∧ l1 < 202) ∧ (∀ M1, M1 = zup M 63 l1.toNat l2 → Q l2 M1)) ∧ (l3 < (M 57 4) → ((zR l2) ∧ ((l2 = (-1) → (0 ≤ l1 ∧ l1 < 202) ∧ (∀ M2, M2 = zup M 63 l1.toNat l2 → Q l2 M2)) ∧ (¬ l2 = (-1) → (zP E mX2_leadsDeeper [.inr (.inr 57), .inl l1, .inl l2] M (fun r3 M4 => ((zR r3) ∧ ((¬ r3 = 0 → (0 ≤ l1 ∧ l1 < 202) ∧ (∀ M5, M5 = zup M4 63 l1.toNat l2 → Q l2 M5)) ∧ (r3 = 0 → (0 ≤ l2 ∧ l2 < 1088) ∧ ∃ n', n' < n ∧ I9 n' l1 (M4 59 l2.toNat) (l3 + 1) M4))))))))))))
    : zP E mX2_deeperArc [.inr (.inr 57), .inl l1] M Q := by
  have key : ∀ n : Nat, (∀ (l1 l2 l3 : Int) (M : zM), I9 n l1 l2 l3 M → zA E zNN (0, 0) mX2_deeperArc 9 [(0, .inr (.inr 57)), (1, .inl l1), (2, .inl l2), (3, .inl l3)] [] M (zQ Q)) := by
    intro n
    induction n using Nat.strongRecOn with
    | ind n ih =>
      intro l1 l2 l3 M h
      have h := h9 n l1 l2 l3 M h
      refine zr_iload_n (pc' := 10) (i := 3) dX2_deeperArc_9 rfl rfl rfl ?_
      refine zr_aload_n (pc' := 11) (i := 0) dX2_deeperArc_10 rfl rfl rfl ?_
      refine zr_get (pc' := 14) dX2_deeperArc_11 rfl ps_57 kd_57 fl_X2_40 kc_2 (gv_57_4 _) ?_
      refine zr_icmp_ge (tgt := 44) (pc' := 17) dX2_deeperArc_14 rfl rfl h.1.1 h.1.2 (fun hc => ?_) (fun hc => ?_)
      · have h := h.2.1 hc
        refine zr_aload_n (pc' := 45) (i := 0) dX2_deeperArc_44 rfl rfl rfl ?_
        refine zr_get (pc' := 48) dX2_deeperArc_45 rfl ps_57 kd_57 fl_X2_31 kc_2 (gv_57_6 _) ?_
        refine zr_iload_n (pc' := 49) (i := 1) dX2_deeperArc_48 rfl rfl rfl ?_
        refine zr_iload_n (pc' := 50) (i := 2) dX2_deeperArc_49 rfl rfl rfl ?_
        refine zr_iast (pc' := 51) dX2_deeperArc_50 rfl ps_63 kd_63 (by decide) h.1.1 h.1.2 (fun M1 hM1 => ?_)
        have h := h.2 M1 hM1
        refine zr_iload_n (pc' := 52) (i := 2) dX2_deeperArc_51 rfl rfl rfl ?_
        exact zr_ireturn dX2_deeperArc_52 rfl rfl trivial (Nat.le_refl _) (Nat.le_refl _) (And.intro rfl h)
      · have h := h.2.2 hc
        refine zr_iload_n (pc' := 18) (i := 2) dX2_deeperArc_17 rfl rfl rfl ?_
        refine zr_iconst (pc' := 19) dX2_deeperArc_18 rfl ?_
        refine zr_icmp_eq (tgt := 44) (pc' := 22) dX2_deeperArc_19 rfl rfl h.1 (zRd rfl) (fun hc => ?_) (fun hc => ?_)
        · have h := h.2.1 hc
          refine zr_aload_n (pc' := 45) (i := 0) dX2_deeperArc_44 rfl rfl rfl ?_
          refine zr_get (pc' := 48) dX2_deeperArc_45 rfl ps_57 kd_57 fl_X2_31 kc_2 (gv_57_6 _) ?_
          refine zr_iload_n (pc' := 49) (i := 1) dX2_deeperArc_48 rfl rfl rfl ?_
          refine zr_iload_n (pc' := 50) (i := 2) dX2_deeperArc_49 rfl rfl rfl ?_
          refine zr_iast (pc' := 51) dX2_deeperArc_50 rfl ps_63 kd_63 (by decide) h.1.1 h.1.2 (fun M2 hM1 => ?_)
          have h := h.2 M2 hM1
          refine zr_iload_n (pc' := 52) (i := 2) dX2_deeperArc_51 rfl rfl rfl ?_
          exact zr_ireturn dX2_deeperArc_52 rfl rfl trivial (Nat.le_refl _) (Nat.le_refl _) (And.intro rfl h)
        · have h := h.2.2 hc
          refine zr_aload_n (pc' := 23) (i := 0) dX2_deeperArc_22 rfl rfl rfl ?_
          refine zr_iload_n (pc' := 24) (i := 1) dX2_deeperArc_23 rfl rfl rfl ?_
          refine zr_iload_n (pc' := 25) (i := 2) dX2_deeperArc_24 rfl rfl rfl ?_
          refine zn_callV (pc' := 28) (args := [.inl l1, .inl l2]) (st := []) (st' := fun r3 => [.inl r3]) dX2_deeperArc_25 rfl cv_X2_79 ⟨rfl, rfl, by decide, by decide⟩ rfl ps_57 kd_57 rfl rfl (Nat.le_of_ble_eq_true rfl) (fun _ => rfl) h ?_
          intro r3 M4 h
          refine zr_if_ne (tgt := 44) (pc' := 31) dX2_deeperArc_28 rfl rfl h.1 (fun hc => ?_) (fun hc => ?_)
          · have h := h.2.1 hc
            refine zr_aload_n (pc' := 45) (i := 0) dX2_deeperArc_44 rfl rfl rfl ?_
            refine zr_get (pc' := 48) dX2_deeperArc_45 rfl ps_57 kd_57 fl_X2_31 kc_2 (gv_57_6 _) ?_
            refine zr_iload_n (pc' := 49) (i := 1) dX2_deeperArc_48 rfl rfl rfl ?_
            refine zr_iload_n (pc' := 50) (i := 2) dX2_deeperArc_49 rfl rfl rfl ?_
            refine zr_iast (pc' := 51) dX2_deeperArc_50 rfl ps_63 kd_63 (by decide) h.1.1 h.1.2 (fun M5 hM1 => ?_)
            have h := h.2 M5 hM1
            refine zr_iload_n (pc' := 52) (i := 2) dX2_deeperArc_51 rfl rfl rfl ?_
            exact zr_ireturn dX2_deeperArc_52 rfl rfl trivial (Nat.le_refl _) (Nat.le_refl _) (And.intro rfl h)
          · have h := h.2.2 hc
            refine zr_aload_n (pc' := 32) (i := 0) dX2_deeperArc_31 rfl rfl rfl ?_
            refine zr_get (pc' := 35) dX2_deeperArc_32 rfl ps_57 kd_57 fl_X2_19 kc_2 (gv_57_1 _) ?_
            refine zr_iload_n (pc' := 36) (i := 2) dX2_deeperArc_35 rfl rfl rfl ?_
            refine zr_iald (pc' := 37) dX2_deeperArc_36 rfl ps_59 kd_59 (by decide) h.1.1 h.1.2 ?_
            have h := h.2
            refine zr_istore_n (pc' := 38) (i := 2) (al' := [(2, .inl (M4 59 l2.toNat)), (0, .inr (.inr 57)), (1, .inl l1), (3, .inl l3)]) dX2_deeperArc_37 rfl rfl (by decide) rfl ?_
            refine zr_iinc (pc' := 41) (al' := [(3, .inl (l3 + 1)), (2, .inl (M4 59 l2.toNat)), (0, .inr (.inr 57)), (1, .inl l1)]) dX2_deeperArc_38 rfl rfl (by decide) rfl ?_
            refine zr_goto (pc' := 9) dX2_deeperArc_41 rfl ?_
            obtain ⟨n', hn, h⟩ := h
            exact zn_al ((ih n' hn) _ _ _ _ h) ⟨rfl, rfl, rfl, rfl, trivial⟩
  refine zP_of (by decide +kernel) rfl (Nat.le_of_ble_eq_true rfl) ?_
  show zA E zNN (0, 0) mX2_deeperArc 0 [(0, .inr (.inr 57)), (1, .inl l1)] [] M (zQ Q)
  refine zr_aload_n (pc' := 1) (i := 0) dX2_deeperArc_0 rfl rfl rfl ?_
  refine zr_get (pc' := 4) dX2_deeperArc_1 rfl ps_57 kd_57 fl_X2_31 kc_2 (gv_57_6 _) ?_
  refine zr_iload_n (pc' := 5) (i := 1) dX2_deeperArc_4 rfl rfl rfl ?_
  refine zr_iald (pc' := 6) dX2_deeperArc_5 rfl ps_63 kd_63 (by decide) h.1.1 h.1.2 ?_
  have h := h.2
  refine zr_istore_n (pc' := 7) (i := 2) (al' := [(2, .inl (M 63 l1.toNat)), (0, .inr (.inr 57)), (1, .inl l1)]) dX2_deeperArc_6 rfl rfl (by decide) rfl ?_
  refine zr_iconst (pc' := 8) dX2_deeperArc_7 rfl ?_
  refine zr_istore_n (pc' := 9) (i := 3) (al' := [(3, .inl 0), (2, .inl (M 63 l1.toNat)), (0, .inr (.inr 57)), (1, .inl l1)]) dX2_deeperArc_8 rfl rfl (by decide) rfl ?_
  obtain ⟨n', h⟩ := h
  exact zn_al ((key n') _ _ _ _ h) ⟨rfl, rfl, rfl, rfl, trivial⟩
set_option maxRecDepth 20000 in
theorem vcX2_leadsDeeper {E : zE} {M : zM} {Q : Int → zM → Prop} (l1 l2 : Int)
    (h : (0 ≤ l2 ∧ l2 < 1088) ∧ ((zR (M 61 l2.toNat)) ∧ (((M 61 l2.toNat) ≤ 0 → Q 0 M) ∧ (0 < (M 61 l2.toNat) → (0 ≤ l2 ∧ l2 < 1088) ∧ (0 ≤ M 60 l2.toNat ∧ M 60 l2.toNat < 202) ∧ (0 ≤ l1 ∧ l1 < 202) ∧ ((zR (M 62 ((M 60 l2.toNat).toNat)) ∧ zR (M 62 l1.toNat)) ∧ (((M 62 ((M 60 l2.toNat).toNat)) ≤ (M 62 l1.toNat) → Q 0 M) ∧ ((M 62 l1.toNat) < (M 62 ((M 60 l2.toNat).toNat)) → Q 1 M)))))))
    : zP E mX2_leadsDeeper [.inr (.inr 57), .inl l1, .inl l2] M Q := by
  refine zP_of (by decide +kernel) rfl (Nat.le_of_ble_eq_true rfl) ?_
  show zA E zNN (0, 0) mX2_leadsDeeper 0 [(0, .inr (.inr 57)), (1, .inl l1), (2, .inl l2)] [] M (zQ Q)
  refine zr_aload_n (pc' := 1) (i := 0) dX2_leadsDeeper_0 rfl rfl rfl ?_
  refine zr_get (pc' := 4) dX2_leadsDeeper_1 rfl ps_57 kd_57 fl_X2_25 kc_2 (gv_57_3 _) ?_
  refine zr_iload_n (pc' := 5) (i := 2) dX2_leadsDeeper_4 rfl rfl rfl ?_
  refine zr_iald (pc' := 6) dX2_leadsDeeper_5 rfl ps_61 kd_61 (by decide) h.1.1 h.1.2 ?_
  have h := h.2
  refine zr_if_le (tgt := 33) (pc' := 9) dX2_leadsDeeper_6 rfl rfl h.1 (fun hc => ?_) (fun hc => ?_)
  · have h := h.2.1 hc
    refine zr_iconst (pc' := 34) dX2_leadsDeeper_33 rfl ?_
    exact zr_ireturn dX2_leadsDeeper_34 rfl rfl (Or.inl rfl) (Nat.le_refl _) (Nat.le_refl _) (And.intro rfl h)
  · have h := h.2.2 hc
    refine zr_aload_n (pc' := 10) (i := 0) dX2_leadsDeeper_9 rfl rfl rfl ?_
    refine zr_get (pc' := 13) dX2_leadsDeeper_10 rfl ps_57 kd_57 fl_X2_28 kc_2 (gv_57_5 _) ?_
    refine zr_aload_n (pc' := 14) (i := 0) dX2_leadsDeeper_13 rfl rfl rfl ?_
    refine zr_get (pc' := 17) dX2_leadsDeeper_14 rfl ps_57 kd_57 fl_X2_22 kc_2 (gv_57_2 _) ?_
    refine zr_iload_n (pc' := 18) (i := 2) dX2_leadsDeeper_17 rfl rfl rfl ?_
    refine zr_iald (pc' := 19) dX2_leadsDeeper_18 rfl ps_60 kd_60 (by decide) h.1.1 h.1.2 ?_
    have h := h.2
    refine zr_iald (pc' := 20) dX2_leadsDeeper_19 rfl ps_62 kd_62 (by decide) h.1.1 h.1.2 ?_
    have h := h.2
    refine zr_aload_n (pc' := 21) (i := 0) dX2_leadsDeeper_20 rfl rfl rfl ?_
    refine zr_get (pc' := 24) dX2_leadsDeeper_21 rfl ps_57 kd_57 fl_X2_28 kc_2 (gv_57_5 _) ?_
    refine zr_iload_n (pc' := 25) (i := 1) dX2_leadsDeeper_24 rfl rfl rfl ?_
    refine zr_iald (pc' := 26) dX2_leadsDeeper_25 rfl ps_62 kd_62 (by decide) h.1.1 h.1.2 ?_
    have h := h.2
    refine zr_icmp_le (tgt := 33) (pc' := 29) dX2_leadsDeeper_26 rfl rfl h.1.1 h.1.2 (fun hc => ?_) (fun hc => ?_)
    · have h := h.2.1 hc
      refine zr_iconst (pc' := 34) dX2_leadsDeeper_33 rfl ?_
      exact zr_ireturn dX2_leadsDeeper_34 rfl rfl (Or.inl rfl) (Nat.le_refl _) (Nat.le_refl _) (And.intro rfl h)
    · have h := h.2.2 hc
      refine zr_iconst (pc' := 30) dX2_leadsDeeper_29 rfl ?_
      refine zr_goto (pc' := 34) dX2_leadsDeeper_30 rfl ?_
      exact zr_ireturn dX2_leadsDeeper_34 rfl rfl (Or.inr rfl) (Nat.le_refl _) (Nat.le_refl _) (And.intro rfl h)
set_option maxRecDepth 20000 in
theorem vcX2_pushAlong {E : zE} {M : zM} {Q : Int → zM → Prop} (l1 : Int) (I5 : Nat → Int → Int → Int → zM → Prop) (I34 : Nat → Int → Int → Int → zM → Prop)
    (h : ∃ n', I5 n' l1 1000000 0 M)
    (h5 : ∀ (n : Nat) (l1 l2 l3 : Int) (M : zM), I5 n l1 l2 l3 M → ((zR l3 ∧ zR l1) ∧ ((l1 ≤ l3 → ∃ n', n' < n ∧ I34 n' l1 l2 0 M) ∧ (l3 < l1 → (0 ≤ l3 ∧ l3 < 202) ∧ (0 ≤ M 65 l3.toNat ∧ M 65 l3.toNat < 1088) ∧ (zR l2 ∧ zR (M 61 ((M 65 l3.toNat).toNat))) ∧ ∃ n', n' < n ∧ I5 n' l1 (if (M 61 ((M 65 l3.toNat).toNat)) < l2 then (M 61 ((M 65 l3.toNat).toNat)) else l2) (l3 + 1) M))))
    (h34 : ∀ (n : Nat) (l1 l2 l3 : Int) (M : zM), I34 n l1 l2 l3 M → ((zR l3 ∧ zR l1) ∧ ((l1 ≤ l3 → Q l2 M) ∧ (l3 < l1 → (0 ≤ l3 ∧ l3 < 202) ∧ (0 ≤ M 65 l3.toNat ∧ M 65 l3.toNat < 1088) ∧ (0 ≤ M 65 l3.toNat ∧ M 65 l3.toNat < 1088) ∧ (∀ M1, M1 = zup M 61 ((M 65 l3.toNat).toNat) ((M 61 ((M 65 l3.toNat).toNat)) - l2) → (0 ≤ l3 ∧ l3 < 202) ∧ (0 ≤ zxor (M1 65 l3.toNat) 1 ∧ zxor (M1 65 l3.toNat) 1 < 1088) ∧ (0 ≤ zxor (M1 65 l3.toNat) 1 ∧ zxor (M1 65 l3.toNat) 1 < 1088) ∧ (∀ M2, M2 = zup M1 61 ((zxor (M1 65 l3.toNat) 1).toNat) ((M1 61 ((zxor (M1 65 l3.toNat) 1).toNat)) + l2) → ∃ n', n' < n ∧ I34 n' l1 l2 (l3 + 1) M2))))))
    : zP E mX2_pushAlong [.inr (.inr 57), .inl l1] M Q := by
  have key : ∀ n : Nat, (∀ (l1 l2 l3 : Int) (M : zM), I5 n l1 l2 l3 M → zA E zNN (0, 0) mX2_pushAlong 5 [(0, .inr (.inr 57)), (1, .inl l1), (2, .inl l2), (3, .inl l3)] [] M (zQ Q)) ∧ (∀ (l1 l2 l3 : Int) (M : zM), I34 n l1 l2 l3 M → zA E zNN (0, 0) mX2_pushAlong 34 [(0, .inr (.inr 57)), (1, .inl l1), (2, .inl l2), (3, .inl l3)] [] M (zQ Q)) := by
    intro n
    induction n using Nat.strongRecOn with
    | ind n ih =>
      refine ⟨?_, ?_⟩
      · intro l1 l2 l3 M h
        have h := h5 n l1 l2 l3 M h
        refine zr_iload_n (pc' := 6) (i := 3) dX2_pushAlong_5 rfl rfl rfl ?_
        refine zr_iload_n (pc' := 7) (i := 1) dX2_pushAlong_6 rfl rfl rfl ?_
        refine zr_icmp_ge (tgt := 32) (pc' := 10) dX2_pushAlong_7 rfl rfl h.1.1 h.1.2 (fun hc => ?_) (fun hc => ?_)
        · have h := h.2.1 hc
          refine zr_iconst (pc' := 33) dX2_pushAlong_32 rfl ?_
          refine zr_istore_n (pc' := 34) (i := 3) (al' := [(3, .inl 0), (0, .inr (.inr 57)), (1, .inl l1), (2, .inl l2)]) dX2_pushAlong_33 rfl rfl (by decide) rfl ?_
          obtain ⟨n', hn, h⟩ := h
          exact zn_al ((ih n' hn).2 _ _ _ _ h) ⟨rfl, rfl, rfl, rfl, trivial⟩
        · have h := h.2.2 hc
          refine zr_iload_n (pc' := 11) (i := 2) dX2_pushAlong_10 rfl rfl rfl ?_
          refine zr_aload_n (pc' := 12) (i := 0) dX2_pushAlong_11 rfl rfl rfl ?_
          refine zr_get (pc' := 15) dX2_pushAlong_12 rfl ps_57 kd_57 fl_X2_25 kc_2 (gv_57_3 _) ?_
          refine zr_aload_n (pc' := 16) (i := 0) dX2_pushAlong_15 rfl rfl rfl ?_
          refine zr_get (pc' := 19) dX2_pushAlong_16 rfl ps_57 kd_57 fl_X2_37 kc_2 (gv_57_8 _) ?_
          refine zr_iload_n (pc' := 20) (i := 3) dX2_pushAlong_19 rfl rfl rfl ?_
          refine zr_iald (pc' := 21) dX2_pushAlong_20 rfl ps_65 kd_65 (by decide) h.1.1 h.1.2 ?_
          have h := h.2
          refine zr_iald (pc' := 22) dX2_pushAlong_21 rfl ps_61 kd_61 (by decide) h.1.1 h.1.2 ?_
          have h := h.2
          refine zr_min (pc' := 25) dX2_pushAlong_22 rfl ml_X2_83.1 ml_X2_83.2.1 ml_X2_83.2.2.1 ml_X2_83.2.2.2 (by decide) (Nat.le_of_ble_eq_true rfl) (Nat.zero_le _) (Nat.zero_le _) h.1.1 h.1.2 ?_
          have h := h.2
          refine zr_istore_n (pc' := 26) (i := 2) (al' := [(2, .inl (if (M 61 ((M 65 l3.toNat).toNat)) < l2 then (M 61 ((M 65 l3.toNat).toNat)) else l2)), (0, .inr (.inr 57)), (1, .inl l1), (3, .inl l3)]) dX2_pushAlong_25 rfl rfl (by decide) rfl ?_
          refine zr_iinc (pc' := 29) (al' := [(3, .inl (l3 + 1)), (2, .inl (if (M 61 ((M 65 l3.toNat).toNat)) < l2 then (M 61 ((M 65 l3.toNat).toNat)) else l2)), (0, .inr (.inr 57)), (1, .inl l1)]) dX2_pushAlong_26 rfl rfl (by decide) rfl ?_
          refine zr_goto (pc' := 5) dX2_pushAlong_29 rfl ?_
          obtain ⟨n', hn, h⟩ := h
          exact zn_al ((ih n' hn).1 _ _ _ _ h) ⟨rfl, rfl, rfl, rfl, trivial⟩
      · intro l1 l2 l3 M h
        have h := h34 n l1 l2 l3 M h
        refine zr_iload_n (pc' := 35) (i := 3) dX2_pushAlong_34 rfl rfl rfl ?_
        refine zr_iload_n (pc' := 36) (i := 1) dX2_pushAlong_35 rfl rfl rfl ?_
        refine zr_icmp_ge (tgt := 77) (pc' := 39) dX2_pushAlong_36 rfl rfl h.1.1 h.1.2 (fun hc => ?_) (fun hc => ?_)
        · have h := h.2.1 hc
          refine zr_iload_n (pc' := 78) (i := 2) dX2_pushAlong_77 rfl rfl rfl ?_
          exact zr_ireturn dX2_pushAlong_78 rfl rfl trivial (Nat.le_refl _) (Nat.le_refl _) (And.intro rfl h)
        · have h := h.2.2 hc
          refine zr_aload_n (pc' := 40) (i := 0) dX2_pushAlong_39 rfl rfl rfl ?_
          refine zr_get (pc' := 43) dX2_pushAlong_40 rfl ps_57 kd_57 fl_X2_25 kc_2 (gv_57_3 _) ?_
          refine zr_aload_n (pc' := 44) (i := 0) dX2_pushAlong_43 rfl rfl rfl ?_
          refine zr_get (pc' := 47) dX2_pushAlong_44 rfl ps_57 kd_57 fl_X2_37 kc_2 (gv_57_8 _) ?_
          refine zr_iload_n (pc' := 48) (i := 3) dX2_pushAlong_47 rfl rfl rfl ?_
          refine zr_iald (pc' := 49) dX2_pushAlong_48 rfl ps_65 kd_65 (by decide) h.1.1 h.1.2 ?_
          have h := h.2
          refine zr_dup2 (pc' := 50) dX2_pushAlong_49 rfl rfl rfl ?_
          refine zr_iald (pc' := 51) dX2_pushAlong_50 rfl ps_61 kd_61 (by decide) h.1.1 h.1.2 ?_
          have h := h.2
          refine zr_iload_n (pc' := 52) (i := 2) dX2_pushAlong_51 rfl rfl rfl ?_
          refine zr_isub (pc' := 53) dX2_pushAlong_52 rfl ?_
          refine zr_iast (pc' := 54) dX2_pushAlong_53 rfl ps_61 kd_61 (by decide) h.1.1 h.1.2 (fun M1 hM1 => ?_)
          have h := h.2 M1 hM1
          refine zr_aload_n (pc' := 55) (i := 0) dX2_pushAlong_54 rfl rfl rfl ?_
          refine zr_get (pc' := 58) dX2_pushAlong_55 rfl ps_57 kd_57 fl_X2_25 kc_2 (gv_57_3 _) ?_
          refine zr_aload_n (pc' := 59) (i := 0) dX2_pushAlong_58 rfl rfl rfl ?_
          refine zr_get (pc' := 62) dX2_pushAlong_59 rfl ps_57 kd_57 fl_X2_37 kc_2 (gv_57_8 _) ?_
          refine zr_iload_n (pc' := 63) (i := 3) dX2_pushAlong_62 rfl rfl rfl ?_
          refine zr_iald (pc' := 64) dX2_pushAlong_63 rfl ps_65 kd_65 (by decide) h.1.1 h.1.2 ?_
          have h := h.2
          refine zr_iconst (pc' := 65) dX2_pushAlong_64 rfl ?_
          refine zr_ixor (pc' := 66) dX2_pushAlong_65 rfl ?_
          refine zr_dup2 (pc' := 67) dX2_pushAlong_66 rfl rfl rfl ?_
          refine zr_iald (pc' := 68) dX2_pushAlong_67 rfl ps_61 kd_61 (by decide) h.1.1 h.1.2 ?_
          have h := h.2
          refine zr_iload_n (pc' := 69) (i := 2) dX2_pushAlong_68 rfl rfl rfl ?_
          refine zr_iadd (pc' := 70) dX2_pushAlong_69 rfl ?_
          refine zr_iast (pc' := 71) dX2_pushAlong_70 rfl ps_61 kd_61 (by decide) h.1.1 h.1.2 (fun M2 hM1 => ?_)
          have h := h.2 M2 hM1
          refine zr_iinc (pc' := 74) (al' := [(3, .inl (l3 + 1)), (0, .inr (.inr 57)), (1, .inl l1), (2, .inl l2)]) dX2_pushAlong_71 rfl rfl (by decide) rfl ?_
          refine zr_goto (pc' := 34) dX2_pushAlong_74 rfl ?_
          obtain ⟨n', hn, h⟩ := h
          exact zn_al ((ih n' hn).2 _ _ _ _ h) ⟨rfl, rfl, rfl, rfl, trivial⟩
  refine zP_of (by decide +kernel) rfl (Nat.le_of_ble_eq_true rfl) ?_
  show zA E zNN (0, 0) mX2_pushAlong 0 [(0, .inr (.inr 57)), (1, .inl l1)] [] M (zQ Q)
  refine zr_ldc (pc' := 2) (x := 1000000) dX2_pushAlong_0 rfl ci_X2_61 ?_
  refine zr_istore_n (pc' := 3) (i := 2) (al' := [(2, .inl 1000000), (0, .inr (.inr 57)), (1, .inl l1)]) dX2_pushAlong_2 rfl rfl (by decide) rfl ?_
  refine zr_iconst (pc' := 4) dX2_pushAlong_3 rfl ?_
  refine zr_istore_n (pc' := 5) (i := 3) (al' := [(3, .inl 0), (2, .inl 1000000), (0, .inr (.inr 57)), (1, .inl l1)]) dX2_pushAlong_4 rfl rfl (by decide) rfl ?_
  obtain ⟨n', h⟩ := h
  exact zn_al ((key n').1 _ _ _ _ h) ⟨rfl, rfl, rfl, rfl, trivial⟩
set_option maxRecDepth 20000 in
theorem vcX3_clear {E : zE} {M : zM} {Q : Int → zM → Prop}
    (h : (∀ M1, M1 = zup M 44 6 0 → (∀ M2, M2 = zup M1 44 13 0 → Q 0 M2)))
    : zP E mX3_clear [.inr (.inr 44)] M Q := by
  refine zP_of (by decide +kernel) rfl (Nat.le_of_ble_eq_true rfl) ?_
  show zA E zNN (0, 0) mX3_clear 0 [(0, .inr (.inr 44))] [] M (zQ Q)
  refine zr_aload_n (pc' := 1) (i := 0) dX3_clear_0 rfl rfl rfl ?_
  refine zr_iconst (pc' := 2) dX3_clear_1 rfl ?_
  refine zr_put (pc' := 5) dX3_clear_2 rfl ps_44 kd_44 fl_X3_48 kc_3 rfl nf_44_6 rfl trivial (fun M1 hM1 => ?_)
  have h := h M1 hM1
  refine zr_aload_n (pc' := 6) (i := 0) dX3_clear_5 rfl rfl rfl ?_
  refine zr_iconst (pc' := 7) dX3_clear_6 rfl ?_
  refine zr_put (pc' := 10) dX3_clear_7 rfl ps_44 kd_44 fl_X3_52 kc_3 rfl nf_44_13 rfl trivial (fun M2 hM1 => ?_)
  have h := h M2 hM1
  exact zr_return (x := 0) dX3_clear_10 rfl (Nat.le_refl _) (Nat.le_refl _) (And.intro rfl h)
set_option maxRecDepth 20000 in
theorem vcX3_has {E : zE} {M : zM} {Q : Int → zM → Prop} (l1 : Int)
    (h : (zP E mX11_within [.inl l1, .inl 0, .inl ((M 44 6) - 1)] M (fun r1 M2 => ((r1 = 0 ∨ r1 = 1) ∧ Q r1 M2))))
    : zP E mX3_has [.inr (.inr 44), .inl l1] M Q := by
  refine zP_of (by decide +kernel) rfl (Nat.le_of_ble_eq_true rfl) ?_
  show zA E zNN (0, 0) mX3_has 0 [(0, .inr (.inr 44)), (1, .inl l1)] [] M (zQ Q)
  refine zr_iload_n (pc' := 1) (i := 1) dX3_has_0 rfl rfl rfl ?_
  refine zr_iconst (pc' := 2) dX3_has_1 rfl ?_
  refine zr_aload_n (pc' := 3) (i := 0) dX3_has_2 rfl rfl rfl ?_
  refine zr_get (pc' := 6) dX3_has_3 rfl ps_44 kd_44 fl_X3_48 kc_3 (gv_44_6 _) ?_
  refine zr_iconst (pc' := 7) dX3_has_6 rfl ?_
  refine zr_isub (pc' := 8) dX3_has_7 rfl ?_
  refine zn_callSN (pc' := 11) (args := [.inl l1, .inl 0, .inl ((M 44 6) - 1)]) (st := []) (st' := fun r1 => [.inl r1]) dX3_has_8 rfl cs_X3_55 ⟨rfl, rfl, by decide, by decide⟩ rfl rfl rfl (Nat.le_of_ble_eq_true rfl) (fun _ => rfl) h ?_
  intro r1 M2 h
  exact zr_ireturn dX3_has_11 rfl rfl h.1 (Nat.le_refl _) (Nat.le_refl _) (And.intro rfl h.2)
set_option maxRecDepth 20000 in
theorem vcX3_isTown {E : zE} {M : zM} {Q : Int → zM → Prop} (l1 : Int)
    (h : (zP E mX3_has [.inr (.inr 44), .inl l1] M (fun r1 M2 => ((zR r1) ∧ ((r1 = 0 → Q 0 M2) ∧ (¬ r1 = 0 → (0 ≤ l1 ∧ l1 < 8) ∧ ((zR (M2 45 l1.toNat)) ∧ (((M2 45 l1.toNat) = (-1) → Q 0 M2) ∧ (¬ (M2 45 l1.toNat) = (-1) → Q 1 M2)))))))))
    : zP E mX3_isTown [.inr (.inr 44), .inl l1] M Q := by
  refine zP_of (by decide +kernel) rfl (Nat.le_of_ble_eq_true rfl) ?_
  show zA E zNN (0, 0) mX3_isTown 0 [(0, .inr (.inr 44)), (1, .inl l1)] [] M (zQ Q)
  refine zr_aload_n (pc' := 1) (i := 0) dX3_isTown_0 rfl rfl rfl ?_
  refine zr_iload_n (pc' := 2) (i := 1) dX3_isTown_1 rfl rfl rfl ?_
  refine zn_callV (pc' := 5) (args := [.inl l1]) (st := []) (st' := fun r1 => [.inl r1]) dX3_isTown_2 rfl cv_X3_59 ⟨rfl, rfl, by decide, by decide⟩ rfl ps_44 kd_44 rfl rfl (Nat.le_of_ble_eq_true rfl) (fun _ => rfl) h ?_
  intro r1 M2 h
  refine zr_if_eq (tgt := 22) (pc' := 8) dX3_isTown_5 rfl rfl h.1 (fun hc => ?_) (fun hc => ?_)
  · have h := h.2.1 hc
    refine zr_iconst (pc' := 23) dX3_isTown_22 rfl ?_
    exact zr_ireturn dX3_isTown_23 rfl rfl (Or.inl rfl) (Nat.le_refl _) (Nat.le_refl _) (And.intro rfl h)
  · have h := h.2.2 hc
    refine zr_aload_n (pc' := 9) (i := 0) dX3_isTown_8 rfl rfl rfl ?_
    refine zr_get (pc' := 12) dX3_isTown_9 rfl ps_44 kd_44 fl_X3_11 kc_3 (gv_44_0 _) ?_
    refine zr_iload_n (pc' := 13) (i := 1) dX3_isTown_12 rfl rfl rfl ?_
    refine zr_iald (pc' := 14) dX3_isTown_13 rfl ps_45 kd_45 (by decide) h.1.1 h.1.2 ?_
    have h := h.2
    refine zr_iconst (pc' := 15) dX3_isTown_14 rfl ?_
    refine zr_icmp_eq (tgt := 22) (pc' := 18) dX3_isTown_15 rfl rfl h.1 (zRd rfl) (fun hc => ?_) (fun hc => ?_)
    · have h := h.2.1 hc
      refine zr_iconst (pc' := 23) dX3_isTown_22 rfl ?_
      exact zr_ireturn dX3_isTown_23 rfl rfl (Or.inl rfl) (Nat.le_refl _) (Nat.le_refl _) (And.intro rfl h)
    · have h := h.2.2 hc
      refine zr_iconst (pc' := 19) dX3_isTown_18 rfl ?_
      refine zr_goto (pc' := 23) dX3_isTown_19 rfl ?_
      exact zr_ireturn dX3_isTown_23 rfl rfl (Or.inr rfl) (Nat.le_refl _) (Nat.le_refl _) (And.intro rfl h)
set_option maxRecDepth 20000 in
theorem vcX3_addTown {E : zE} {M : zM} {Q : Int → zM → Prop} (l1 l2 l3 l4 : Int)
    (h : ((zR (M 44 6)) ∧ (((M 44 6) < 8 → (0 ≤ M 44 6 ∧ M 44 6 < 8) ∧ (∀ M1, M1 = zup M 45 ((M 44 6).toNat) l1 → (0 ≤ M1 44 6 ∧ M1 44 6 < 8) ∧ (∀ M2, M2 = zup M1 46 ((M1 44 6).toNat) l2 → (0 ≤ M2 44 6 ∧ M2 44 6 < 8) ∧ (∀ M3, M3 = zup M2 47 ((M2 44 6).toNat) l3 → (0 ≤ M3 44 6 ∧ M3 44 6 < 8) ∧ (∀ M4, M4 = zup M3 48 ((M3 44 6).toNat) l4 → (0 ≤ M4 44 6 ∧ M4 44 6 < 8) ∧ (∀ M5, M5 = zup M4 49 ((M4 44 6).toNat) 0 → (∀ M6, M6 = zup M5 44 6 ((M5 44 6) + 1) → Q ((M6 44 6) - 1) M6))))))) ∧ (8 ≤ (M 44 6) → Q (-1) M))))
    : zP E mX3_addTown [.inr (.inr 44), .inl l1, .inl l2, .inl l3, .inl l4] M Q := by
  refine zP_of (by decide +kernel) rfl (Nat.le_of_ble_eq_true rfl) ?_
  show zA E zNN (0, 0) mX3_addTown 0 [(0, .inr (.inr 44)), (1, .inl l1), (2, .inl l2), (3, .inl l3), (4, .inl l4)] [] M (zQ Q)
  refine zr_aload_n (pc' := 1) (i := 0) dX3_addTown_0 rfl rfl rfl ?_
  refine zr_get (pc' := 4) dX3_addTown_1 rfl ps_44 kd_44 fl_X3_48 kc_3 (gv_44_6 _) ?_
  refine zr_bipush (pc' := 6) dX3_addTown_4 rfl rfl ?_
  refine zr_icmp_lt (tgt := 11) (pc' := 9) dX3_addTown_6 rfl rfl h.1 (zRd rfl) (fun hc => ?_) (fun hc => ?_)
  · have h := h.2.1 hc
    refine zr_aload_n (pc' := 12) (i := 0) dX3_addTown_11 rfl rfl rfl ?_
    refine zr_get (pc' := 15) dX3_addTown_12 rfl ps_44 kd_44 fl_X3_11 kc_3 (gv_44_0 _) ?_
    refine zr_aload_n (pc' := 16) (i := 0) dX3_addTown_15 rfl rfl rfl ?_
    refine zr_get (pc' := 19) dX3_addTown_16 rfl ps_44 kd_44 fl_X3_48 kc_3 (gv_44_6 _) ?_
    refine zr_iload_n (pc' := 20) (i := 1) dX3_addTown_19 rfl rfl rfl ?_
    refine zr_iast (pc' := 21) dX3_addTown_20 rfl ps_45 kd_45 (by decide) h.1.1 h.1.2 (fun M1 hM1 => ?_)
    have h := h.2 M1 hM1
    refine zr_aload_n (pc' := 22) (i := 0) dX3_addTown_21 rfl rfl rfl ?_
    refine zr_get (pc' := 25) dX3_addTown_22 rfl ps_44 kd_44 fl_X3_15 kc_3 (gv_44_1 _) ?_
    refine zr_aload_n (pc' := 26) (i := 0) dX3_addTown_25 rfl rfl rfl ?_
    refine zr_get (pc' := 29) dX3_addTown_26 rfl ps_44 kd_44 fl_X3_48 kc_3 (gv_44_6 _) ?_
    refine zr_iload_n (pc' := 30) (i := 2) dX3_addTown_29 rfl rfl rfl ?_
    refine zr_iast (pc' := 31) dX3_addTown_30 rfl ps_46 kd_46 (by decide) h.1.1 h.1.2 (fun M2 hM1 => ?_)
    have h := h.2 M2 hM1
    refine zr_aload_n (pc' := 32) (i := 0) dX3_addTown_31 rfl rfl rfl ?_
    refine zr_get (pc' := 35) dX3_addTown_32 rfl ps_44 kd_44 fl_X3_18 kc_3 (gv_44_2 _) ?_
    refine zr_aload_n (pc' := 36) (i := 0) dX3_addTown_35 rfl rfl rfl ?_
    refine zr_get (pc' := 39) dX3_addTown_36 rfl ps_44 kd_44 fl_X3_48 kc_3 (gv_44_6 _) ?_
    refine zr_iload_n (pc' := 40) (i := 3) dX3_addTown_39 rfl rfl rfl ?_
    refine zr_iast (pc' := 41) dX3_addTown_40 rfl ps_47 kd_47 (by decide) h.1.1 h.1.2 (fun M3 hM1 => ?_)
    have h := h.2 M3 hM1
    refine zr_aload_n (pc' := 42) (i := 0) dX3_addTown_41 rfl rfl rfl ?_
    refine zr_get (pc' := 45) dX3_addTown_42 rfl ps_44 kd_44 fl_X3_21 kc_3 (gv_44_3 _) ?_
    refine zr_aload_n (pc' := 46) (i := 0) dX3_addTown_45 rfl rfl rfl ?_
    refine zr_get (pc' := 49) dX3_addTown_46 rfl ps_44 kd_44 fl_X3_48 kc_3 (gv_44_6 _) ?_
    refine zr_iload (pc' := 51) dX3_addTown_49 rfl rfl ?_
    refine zr_iast (pc' := 52) dX3_addTown_51 rfl ps_48 kd_48 (by decide) h.1.1 h.1.2 (fun M4 hM1 => ?_)
    have h := h.2 M4 hM1
    refine zr_aload_n (pc' := 53) (i := 0) dX3_addTown_52 rfl rfl rfl ?_
    refine zr_get (pc' := 56) dX3_addTown_53 rfl ps_44 kd_44 fl_X3_24 kc_3 (gv_44_4 _) ?_
    refine zr_aload_n (pc' := 57) (i := 0) dX3_addTown_56 rfl rfl rfl ?_
    refine zr_get (pc' := 60) dX3_addTown_57 rfl ps_44 kd_44 fl_X3_48 kc_3 (gv_44_6 _) ?_
    refine zr_iconst (pc' := 61) dX3_addTown_60 rfl ?_
    refine zr_iast (pc' := 62) dX3_addTown_61 rfl ps_49 kd_49 (by decide) h.1.1 h.1.2 (fun M5 hM1 => ?_)
    have h := h.2 M5 hM1
    refine zr_aload_n (pc' := 63) (i := 0) dX3_addTown_62 rfl rfl rfl ?_
    refine zr_dup (pc' := 64) dX3_addTown_63 rfl rfl ?_
    refine zr_get (pc' := 67) dX3_addTown_64 rfl ps_44 kd_44 fl_X3_48 kc_3 (gv_44_6 _) ?_
    refine zr_iconst (pc' := 68) dX3_addTown_67 rfl ?_
    refine zr_iadd (pc' := 69) dX3_addTown_68 rfl ?_
    refine zr_put (pc' := 72) dX3_addTown_69 rfl ps_44 kd_44 fl_X3_48 kc_3 rfl nf_44_6 rfl trivial (fun M6 hM1 => ?_)
    have h := h M6 hM1
    refine zr_aload_n (pc' := 73) (i := 0) dX3_addTown_72 rfl rfl rfl ?_
    refine zr_get (pc' := 76) dX3_addTown_73 rfl ps_44 kd_44 fl_X3_48 kc_3 (gv_44_6 _) ?_
    refine zr_iconst (pc' := 77) dX3_addTown_76 rfl ?_
    refine zr_isub (pc' := 78) dX3_addTown_77 rfl ?_
    exact zr_ireturn dX3_addTown_78 rfl rfl trivial (Nat.le_refl _) (Nat.le_refl _) (And.intro rfl h)
  · have h := h.2.2 hc
    refine zr_iconst (pc' := 10) dX3_addTown_9 rfl ?_
    exact zr_ireturn dX3_addTown_10 rfl rfl trivial (Nat.le_refl _) (Nat.le_refl _) (And.intro rfl h)
set_option maxRecDepth 20000 in
theorem vcX3_addShelter {E : zE} {M : zM} {Q : Int → zM → Prop} (l1 : Int)
    (h : (zP E mX3_addTown [.inr (.inr 44), .inl (-1), .inl 0, .inl 0, .inl 0] M (fun r1 M2 => ((zR r1) ∧ ((r1 = (-1) → Q r1 M2) ∧ (¬ r1 = (-1) → (0 ≤ r1 ∧ r1 < 8) ∧ (∀ M3, M3 = zup M2 49 r1.toNat l1 → Q r1 M3)))))))
    : zP E mX3_addShelter [.inr (.inr 44), .inl l1] M Q := by
  refine zP_of (by decide +kernel) rfl (Nat.le_of_ble_eq_true rfl) ?_
  show zA E zNN (0, 0) mX3_addShelter 0 [(0, .inr (.inr 44)), (1, .inl l1)] [] M (zQ Q)
  refine zr_aload_n (pc' := 1) (i := 0) dX3_addShelter_0 rfl rfl rfl ?_
  refine zr_iconst (pc' := 2) dX3_addShelter_1 rfl ?_
  refine zr_iconst (pc' := 3) dX3_addShelter_2 rfl ?_
  refine zr_iconst (pc' := 4) dX3_addShelter_3 rfl ?_
  refine zr_iconst (pc' := 5) dX3_addShelter_4 rfl ?_
  refine zn_callV (pc' := 8) (args := [.inl (-1), .inl 0, .inl 0, .inl 0]) (st := []) (st' := fun r1 => [.inl r1]) dX3_addShelter_5 rfl cv_X3_63 ⟨rfl, rfl, by decide, by decide⟩ rfl ps_44 kd_44 rfl rfl (Nat.le_of_ble_eq_true rfl) (fun _ => rfl) h ?_
  intro r1 M2 h
  refine zr_istore_n (pc' := 9) (i := 2) (al' := [(2, .inl r1), (0, .inr (.inr 44)), (1, .inl l1)]) dX3_addShelter_8 rfl rfl (by decide) rfl ?_
  refine zr_iload_n (pc' := 10) (i := 2) dX3_addShelter_9 rfl rfl rfl ?_
  refine zr_iconst (pc' := 11) dX3_addShelter_10 rfl ?_
  refine zr_icmp_eq (tgt := 21) (pc' := 14) dX3_addShelter_11 rfl rfl h.1 (zRd rfl) (fun hc => ?_) (fun hc => ?_)
  · have h := h.2.1 hc
    refine zr_iload_n (pc' := 22) (i := 2) dX3_addShelter_21 rfl rfl rfl ?_
    exact zr_ireturn dX3_addShelter_22 rfl rfl trivial (Nat.le_refl _) (Nat.le_refl _) (And.intro rfl h)
  · have h := h.2.2 hc
    refine zr_aload_n (pc' := 15) (i := 0) dX3_addShelter_14 rfl rfl rfl ?_
    refine zr_get (pc' := 18) dX3_addShelter_15 rfl ps_44 kd_44 fl_X3_24 kc_3 (gv_44_4 _) ?_
    refine zr_iload_n (pc' := 19) (i := 2) dX3_addShelter_18 rfl rfl rfl ?_
    refine zr_iload_n (pc' := 20) (i := 1) dX3_addShelter_19 rfl rfl rfl ?_
    refine zr_iast (pc' := 21) dX3_addShelter_20 rfl ps_49 kd_49 (by decide) h.1.1 h.1.2 (fun M3 hM1 => ?_)
    have h := h.2 M3 hM1
    refine zr_iload_n (pc' := 22) (i := 2) dX3_addShelter_21 rfl rfl rfl ?_
    exact zr_ireturn dX3_addShelter_22 rfl rfl trivial (Nat.le_refl _) (Nat.le_refl _) (And.intro rfl h)
set_option maxRecDepth 20000 in
theorem vcX3_forgetWarnings {E : zE} {M : zM} {Q : Int → zM → Prop}
    (h : (∀ M1, M1 = zfill M 50 8 (-1) → Q 0 M1))
    : zP E mX3_forgetWarnings [.inr (.inr 44)] M Q := by
  refine zP_of (by decide +kernel) rfl (Nat.le_of_ble_eq_true rfl) ?_
  show zA E zNN (0, 0) mX3_forgetWarnings 0 [(0, .inr (.inr 44))] [] M (zQ Q)
  refine zr_aload_n (pc' := 1) (i := 0) dX3_forgetWarnings_0 rfl rfl rfl ?_
  refine zr_get (pc' := 4) dX3_forgetWarnings_1 rfl ps_44 kd_44 fl_X3_27 kc_3 (gv_44_5 _) ?_
  refine zr_iconst (pc' := 5) dX3_forgetWarnings_4 rfl ?_
  refine zn_callS (pc' := 8) (args := [.inr (.inr 50), .inl (-1)]) (st := []) (st' := fun _ => []) dX3_forgetWarnings_5 rfl cs_X3_67 ⟨rfl, rfl, by decide, by decide⟩ rfl rfl rfl (Nat.le_of_ble_eq_true rfl) (fun _ => rfl) (s_fill ps_50 kd_50 (by decide)) ?_
  intro _ M1 hM1
  have h := h M1 hM1
  exact zr_return (x := 0) dX3_forgetWarnings_8 rfl (Nat.le_refl _) (Nat.le_refl _) (And.intro rfl h)
set_option maxRecDepth 20000 in
theorem vcX3_someUnwarned {E : zE} {M : zM} {Q : Int → zM → Prop} (I2 : Nat → Int → zM → Prop)
    (h : ∃ n', I2 n' 0 M)
    (h2 : ∀ (n : Nat) (l1 : Int) (M : zM), I2 n l1 M → ((zR l1 ∧ zR (M 44 6)) ∧ (((M 44 6) ≤ l1 → Q 0 M) ∧ (l1 < (M 44 6) → (0 ≤ l1 ∧ l1 < 8) ∧ ((zR (M 45 l1.toNat)) ∧ (((M 45 l1.toNat) = (-1) → ∃ n', n' < n ∧ I2 n' (l1 + 1) M) ∧ (¬ (M 45 l1.toNat) = (-1) → (0 ≤ l1 ∧ l1 < 8) ∧ ((zR (M 50 l1.toNat)) ∧ ((¬ (M 50 l1.toNat) = (-1) → ∃ n', n' < n ∧ I2 n' (l1 + 1) M) ∧ ((M 50 l1.toNat) = (-1) → Q 1 M))))))))))
    : zP E mX3_someUnwarned [.inr (.inr 44)] M Q := by
  have key : ∀ n : Nat, (∀ (l1 : Int) (M : zM), I2 n l1 M → zA E zNN (0, 0) mX3_someUnwarned 2 [(0, .inr (.inr 44)), (1, .inl l1)] [] M (zQ Q)) := by
    intro n
    induction n using Nat.strongRecOn with
    | ind n ih =>
      intro l1 M h
      have h := h2 n l1 M h
      refine zr_iload_n (pc' := 3) (i := 1) dX3_someUnwarned_2 rfl rfl rfl ?_
      refine zr_aload_n (pc' := 4) (i := 0) dX3_someUnwarned_3 rfl rfl rfl ?_
      refine zr_get (pc' := 7) dX3_someUnwarned_4 rfl ps_44 kd_44 fl_X3_48 kc_3 (gv_44_6 _) ?_
      refine zr_icmp_ge (tgt := 38) (pc' := 10) dX3_someUnwarned_7 rfl rfl h.1.1 h.1.2 (fun hc => ?_) (fun hc => ?_)
      · have h := h.2.1 hc
        refine zr_iconst (pc' := 39) dX3_someUnwarned_38 rfl ?_
        exact zr_ireturn dX3_someUnwarned_39 rfl rfl (Or.inl rfl) (Nat.le_refl _) (Nat.le_refl _) (And.intro rfl h)
      · have h := h.2.2 hc
        refine zr_aload_n (pc' := 11) (i := 0) dX3_someUnwarned_10 rfl rfl rfl ?_
        refine zr_get (pc' := 14) dX3_someUnwarned_11 rfl ps_44 kd_44 fl_X3_11 kc_3 (gv_44_0 _) ?_
        refine zr_iload_n (pc' := 15) (i := 1) dX3_someUnwarned_14 rfl rfl rfl ?_
        refine zr_iald (pc' := 16) dX3_someUnwarned_15 rfl ps_45 kd_45 (by decide) h.1.1 h.1.2 ?_
        have h := h.2
        refine zr_iconst (pc' := 17) dX3_someUnwarned_16 rfl ?_
        refine zr_icmp_eq (tgt := 32) (pc' := 20) dX3_someUnwarned_17 rfl rfl h.1 (zRd rfl) (fun hc => ?_) (fun hc => ?_)
        · have h := h.2.1 hc
          refine zr_iinc (pc' := 35) (al' := [(1, .inl (l1 + 1)), (0, .inr (.inr 44))]) dX3_someUnwarned_32 rfl rfl (by decide) rfl ?_
          refine zr_goto (pc' := 2) dX3_someUnwarned_35 rfl ?_
          obtain ⟨n', hn, h⟩ := h
          exact zn_al ((ih n' hn) _ _ h) ⟨rfl, rfl, trivial⟩
        · have h := h.2.2 hc
          refine zr_aload_n (pc' := 21) (i := 0) dX3_someUnwarned_20 rfl rfl rfl ?_
          refine zr_get (pc' := 24) dX3_someUnwarned_21 rfl ps_44 kd_44 fl_X3_27 kc_3 (gv_44_5 _) ?_
          refine zr_iload_n (pc' := 25) (i := 1) dX3_someUnwarned_24 rfl rfl rfl ?_
          refine zr_iald (pc' := 26) dX3_someUnwarned_25 rfl ps_50 kd_50 (by decide) h.1.1 h.1.2 ?_
          have h := h.2
          refine zr_iconst (pc' := 27) dX3_someUnwarned_26 rfl ?_
          refine zr_icmp_ne (tgt := 32) (pc' := 30) dX3_someUnwarned_27 rfl rfl h.1 (zRd rfl) (fun hc => ?_) (fun hc => ?_)
          · have h := h.2.1 hc
            refine zr_iinc (pc' := 35) (al' := [(1, .inl (l1 + 1)), (0, .inr (.inr 44))]) dX3_someUnwarned_32 rfl rfl (by decide) rfl ?_
            refine zr_goto (pc' := 2) dX3_someUnwarned_35 rfl ?_
            obtain ⟨n', hn, h⟩ := h
            exact zn_al ((ih n' hn) _ _ h) ⟨rfl, rfl, trivial⟩
          · have h := h.2.2 hc
            refine zr_iconst (pc' := 31) dX3_someUnwarned_30 rfl ?_
            exact zr_ireturn dX3_someUnwarned_31 rfl rfl (Or.inr rfl) (Nat.le_refl _) (Nat.le_refl _) (And.intro rfl h)
  refine zP_of (by decide +kernel) rfl (Nat.le_of_ble_eq_true rfl) ?_
  show zA E zNN (0, 0) mX3_someUnwarned 0 [(0, .inr (.inr 44))] [] M (zQ Q)
  refine zr_iconst (pc' := 1) dX3_someUnwarned_0 rfl ?_
  refine zr_istore_n (pc' := 2) (i := 1) (al' := [(1, .inl 0), (0, .inr (.inr 44))]) dX3_someUnwarned_1 rfl rfl (by decide) rfl ?_
  obtain ⟨n', h⟩ := h
  exact zn_al ((key n') _ _ h) ⟨rfl, rfl, trivial⟩
set_option maxRecDepth 20000 in
theorem vcX3_warn {E : zE} {M : zM} {Q : Int → zM → Prop} (l1 l2 : Int) (I2 : Nat → Int → Int → Int → zM → Prop)
    (h : ∃ n', I2 n' l1 l2 0 M)
    (h2 : ∀ (n : Nat) (l1 l2 l3 : Int) (M : zM), I2 n l1 l2 l3 M → ((zR l3 ∧ zR (M 44 6)) ∧ (((M 44 6) ≤ l3 → Q 0 M) ∧ (l3 < (M 44 6) → (0 ≤ l3 ∧ l3 < 8) ∧ ((zR (M 45 l3.toNat)) ∧ (((M 45 l3.toNat) = (-1) → ∃ n', n' < n ∧ I2 n' l1 l2 (l3 + 1) M) ∧ (¬ (M 45 l3.toNat) = (-1) → (0 ≤ l3 ∧ l3 < 8) ∧ ((zR (M 50 l3.toNat)) ∧ ((¬ (M 50 l3.toNat) = (-1) → ∃ n', n' < n ∧ I2 n' l1 l2 (l3 + 1) M) ∧ ((M 50 l3.toNat) = (-1) → (0 ≤ l3 ∧ l3 < 8) ∧ ((zR l2 ∧ zR (M 47 l3.toNat)) ∧ ((l2 < (M 47 l3.toNat) → ∃ n', n' < n ∧ I2 n' l1 l2 (l3 + 1) M) ∧ ((M 47 l3.toNat) ≤ l2 → (0 ≤ l3 ∧ l3 < 8) ∧ (0 ≤ l3 ∧ l3 < 8) ∧ (∀ M1, M1 = zup M 50 l3.toNat (l1 + (M 48 l3.toNat)) → ∃ n', n' < n ∧ I2 n' l1 l2 (l3 + 1) M1))))))))))))))
    : zP E mX3_warn [.inr (.inr 44), .inl l1, .inl l2] M Q := by
  have key : ∀ n : Nat, (∀ (l1 l2 l3 : Int) (M : zM), I2 n l1 l2 l3 M → zA E zNN (0, 0) mX3_warn 2 [(0, .inr (.inr 44)), (1, .inl l1), (2, .inl l2), (3, .inl l3)] [] M (zQ Q)) := by
    intro n
    induction n using Nat.strongRecOn with
    | ind n ih =>
      intro l1 l2 l3 M h
      have h := h2 n l1 l2 l3 M h
      refine zr_iload_n (pc' := 3) (i := 3) dX3_warn_2 rfl rfl rfl ?_
      refine zr_aload_n (pc' := 4) (i := 0) dX3_warn_3 rfl rfl rfl ?_
      refine zr_get (pc' := 7) dX3_warn_4 rfl ps_44 kd_44 fl_X3_48 kc_3 (gv_44_6 _) ?_
      refine zr_icmp_ge (tgt := 60) (pc' := 10) dX3_warn_7 rfl rfl h.1.1 h.1.2 (fun hc => ?_) (fun hc => ?_)
      · have h := h.2.1 hc
        exact zr_return (x := 0) dX3_warn_60 rfl (Nat.le_refl _) (Nat.le_refl _) (And.intro rfl h)
      · have h := h.2.2 hc
        refine zr_aload_n (pc' := 11) (i := 0) dX3_warn_10 rfl rfl rfl ?_
        refine zr_get (pc' := 14) dX3_warn_11 rfl ps_44 kd_44 fl_X3_11 kc_3 (gv_44_0 _) ?_
        refine zr_iload_n (pc' := 15) (i := 3) dX3_warn_14 rfl rfl rfl ?_
        refine zr_iald (pc' := 16) dX3_warn_15 rfl ps_45 kd_45 (by decide) h.1.1 h.1.2 ?_
        have h := h.2
        refine zr_iconst (pc' := 17) dX3_warn_16 rfl ?_
        refine zr_icmp_eq (tgt := 54) (pc' := 20) dX3_warn_17 rfl rfl h.1 (zRd rfl) (fun hc => ?_) (fun hc => ?_)
        · have h := h.2.1 hc
          refine zr_iinc (pc' := 57) (al' := [(3, .inl (l3 + 1)), (0, .inr (.inr 44)), (1, .inl l1), (2, .inl l2)]) dX3_warn_54 rfl rfl (by decide) rfl ?_
          refine zr_goto (pc' := 2) dX3_warn_57 rfl ?_
          obtain ⟨n', hn, h⟩ := h
          exact zn_al ((ih n' hn) _ _ _ _ h) ⟨rfl, rfl, rfl, rfl, trivial⟩
        · have h := h.2.2 hc
          refine zr_aload_n (pc' := 21) (i := 0) dX3_warn_20 rfl rfl rfl ?_
          refine zr_get (pc' := 24) dX3_warn_21 rfl ps_44 kd_44 fl_X3_27 kc_3 (gv_44_5 _) ?_
          refine zr_iload_n (pc' := 25) (i := 3) dX3_warn_24 rfl rfl rfl ?_
          refine zr_iald (pc' := 26) dX3_warn_25 rfl ps_50 kd_50 (by decide) h.1.1 h.1.2 ?_
          have h := h.2
          refine zr_iconst (pc' := 27) dX3_warn_26 rfl ?_
          refine zr_icmp_ne (tgt := 54) (pc' := 30) dX3_warn_27 rfl rfl h.1 (zRd rfl) (fun hc => ?_) (fun hc => ?_)
          · have h := h.2.1 hc
            refine zr_iinc (pc' := 57) (al' := [(3, .inl (l3 + 1)), (0, .inr (.inr 44)), (1, .inl l1), (2, .inl l2)]) dX3_warn_54 rfl rfl (by decide) rfl ?_
            refine zr_goto (pc' := 2) dX3_warn_57 rfl ?_
            obtain ⟨n', hn, h⟩ := h
            exact zn_al ((ih n' hn) _ _ _ _ h) ⟨rfl, rfl, rfl, rfl, trivial⟩
          · have h := h.2.2 hc
            refine zr_iload_n (pc' := 31) (i := 2) dX3_warn_30 rfl rfl rfl ?_
            refine zr_aload_n (pc' := 32) (i := 0) dX3_warn_31 rfl rfl rfl ?_
            refine zr_get (pc' := 35) dX3_warn_32 rfl ps_44 kd_44 fl_X3_18 kc_3 (gv_44_2 _) ?_
            refine zr_iload_n (pc' := 36) (i := 3) dX3_warn_35 rfl rfl rfl ?_
            refine zr_iald (pc' := 37) dX3_warn_36 rfl ps_47 kd_47 (by decide) h.1.1 h.1.2 ?_
            have h := h.2
            refine zr_icmp_lt (tgt := 54) (pc' := 40) dX3_warn_37 rfl rfl h.1.1 h.1.2 (fun hc => ?_) (fun hc => ?_)
            · have h := h.2.1 hc
              refine zr_iinc (pc' := 57) (al' := [(3, .inl (l3 + 1)), (0, .inr (.inr 44)), (1, .inl l1), (2, .inl l2)]) dX3_warn_54 rfl rfl (by decide) rfl ?_
              refine zr_goto (pc' := 2) dX3_warn_57 rfl ?_
              obtain ⟨n', hn, h⟩ := h
              exact zn_al ((ih n' hn) _ _ _ _ h) ⟨rfl, rfl, rfl, rfl, trivial⟩
            · have h := h.2.2 hc
              refine zr_aload_n (pc' := 41) (i := 0) dX3_warn_40 rfl rfl rfl ?_
              refine zr_get (pc' := 44) dX3_warn_41 rfl ps_44 kd_44 fl_X3_27 kc_3 (gv_44_5 _) ?_
              refine zr_iload_n (pc' := 45) (i := 3) dX3_warn_44 rfl rfl rfl ?_
              refine zr_iload_n (pc' := 46) (i := 1) dX3_warn_45 rfl rfl rfl ?_
              refine zr_aload_n (pc' := 47) (i := 0) dX3_warn_46 rfl rfl rfl ?_
              refine zr_get (pc' := 50) dX3_warn_47 rfl ps_44 kd_44 fl_X3_21 kc_3 (gv_44_3 _) ?_
              refine zr_iload_n (pc' := 51) (i := 3) dX3_warn_50 rfl rfl rfl ?_
              refine zr_iald (pc' := 52) dX3_warn_51 rfl ps_48 kd_48 (by decide) h.1.1 h.1.2 ?_
              have h := h.2
              refine zr_iadd (pc' := 53) dX3_warn_52 rfl ?_
              refine zr_iast (pc' := 54) dX3_warn_53 rfl ps_50 kd_50 (by decide) h.1.1 h.1.2 (fun M1 hM1 => ?_)
              have h := h.2 M1 hM1
              refine zr_iinc (pc' := 57) (al' := [(3, .inl (l3 + 1)), (0, .inr (.inr 44)), (1, .inl l1), (2, .inl l2)]) dX3_warn_54 rfl rfl (by decide) rfl ?_
              refine zr_goto (pc' := 2) dX3_warn_57 rfl ?_
              obtain ⟨n', hn, h⟩ := h
              exact zn_al ((ih n' hn) _ _ _ _ h) ⟨rfl, rfl, rfl, rfl, trivial⟩
  refine zP_of (by decide +kernel) rfl (Nat.le_of_ble_eq_true rfl) ?_
  show zA E zNN (0, 0) mX3_warn 0 [(0, .inr (.inr 44)), (1, .inl l1), (2, .inl l2)] [] M (zQ Q)
  refine zr_iconst (pc' := 1) dX3_warn_0 rfl ?_
  refine zr_istore_n (pc' := 2) (i := 3) (al' := [(3, .inl 0), (0, .inr (.inr 44)), (1, .inl l1), (2, .inl l2)]) dX3_warn_1 rfl rfl (by decide) rfl ?_
  obtain ⟨n', h⟩ := h
  exact zn_al ((key n') _ _ _ _ h) ⟨rfl, rfl, rfl, rfl, trivial⟩
set_option maxRecDepth 20000 in
theorem vcX3_addRoad {E : zE} {M : zM} {Q : Int → zM → Prop} (l1 l2 l3 l4 l5 l6 : Int)
    (h : ((zR (M 44 13)) ∧ (((M 44 13) < 14 → (0 ≤ M 44 13 ∧ M 44 13 < 14) ∧ (∀ M1, M1 = zup M 51 ((M 44 13).toNat) l1 → (0 ≤ M1 44 13 ∧ M1 44 13 < 14) ∧ (∀ M2, M2 = zup M1 52 ((M1 44 13).toNat) l2 → (0 ≤ M2 44 13 ∧ M2 44 13 < 14) ∧ (∀ M3, M3 = zup M2 53 ((M2 44 13).toNat) l3 → (0 ≤ M3 44 13 ∧ M3 44 13 < 14) ∧ (∀ M4, M4 = zup M3 54 ((M3 44 13).toNat) l4 → (0 ≤ M4 44 13 ∧ M4 44 13 < 14) ∧ (∀ M5, M5 = zup M4 55 ((M4 44 13).toNat) l5 → (0 ≤ M5 44 13 ∧ M5 44 13 < 14) ∧ (∀ M6, M6 = zup M5 56 ((M5 44 13).toNat) l6 → (∀ M7, M7 = zup M6 44 13 ((M6 44 13) + 1) → Q ((M7 44 13) - 1) M7)))))))) ∧ (14 ≤ (M 44 13) → Q (-1) M))))
    : zP E mX3_addRoad [.inr (.inr 44), .inl l1, .inl l2, .inl l3, .inl l4, .inl l5, .inl l6] M Q := by
  refine zP_of (by decide +kernel) rfl (Nat.le_of_ble_eq_true rfl) ?_
  show zA E zNN (0, 0) mX3_addRoad 0 [(0, .inr (.inr 44)), (1, .inl l1), (2, .inl l2), (3, .inl l3), (4, .inl l4), (5, .inl l5), (6, .inl l6)] [] M (zQ Q)
  refine zr_aload_n (pc' := 1) (i := 0) dX3_addRoad_0 rfl rfl rfl ?_
  refine zr_get (pc' := 4) dX3_addRoad_1 rfl ps_44 kd_44 fl_X3_52 kc_3 (gv_44_13 _) ?_
  refine zr_bipush (pc' := 6) dX3_addRoad_4 rfl rfl ?_
  refine zr_icmp_lt (tgt := 11) (pc' := 9) dX3_addRoad_6 rfl rfl h.1 (zRd rfl) (fun hc => ?_) (fun hc => ?_)
  · have h := h.2.1 hc
    refine zr_aload_n (pc' := 12) (i := 0) dX3_addRoad_11 rfl rfl rfl ?_
    refine zr_get (pc' := 15) dX3_addRoad_12 rfl ps_44 kd_44 fl_X3_30 kc_3 (gv_44_7 _) ?_
    refine zr_aload_n (pc' := 16) (i := 0) dX3_addRoad_15 rfl rfl rfl ?_
    refine zr_get (pc' := 19) dX3_addRoad_16 rfl ps_44 kd_44 fl_X3_52 kc_3 (gv_44_13 _) ?_
    refine zr_iload_n (pc' := 20) (i := 1) dX3_addRoad_19 rfl rfl rfl ?_
    refine zr_iast (pc' := 21) dX3_addRoad_20 rfl ps_51 kd_51 (by decide) h.1.1 h.1.2 (fun M1 hM1 => ?_)
    have h := h.2 M1 hM1
    refine zr_aload_n (pc' := 22) (i := 0) dX3_addRoad_21 rfl rfl rfl ?_
    refine zr_get (pc' := 25) dX3_addRoad_22 rfl ps_44 kd_44 fl_X3_33 kc_3 (gv_44_8 _) ?_
    refine zr_aload_n (pc' := 26) (i := 0) dX3_addRoad_25 rfl rfl rfl ?_
    refine zr_get (pc' := 29) dX3_addRoad_26 rfl ps_44 kd_44 fl_X3_52 kc_3 (gv_44_13 _) ?_
    refine zr_iload_n (pc' := 30) (i := 2) dX3_addRoad_29 rfl rfl rfl ?_
    refine zr_iast (pc' := 31) dX3_addRoad_30 rfl ps_52 kd_52 (by decide) h.1.1 h.1.2 (fun M2 hM1 => ?_)
    have h := h.2 M2 hM1
    refine zr_aload_n (pc' := 32) (i := 0) dX3_addRoad_31 rfl rfl rfl ?_
    refine zr_get (pc' := 35) dX3_addRoad_32 rfl ps_44 kd_44 fl_X3_36 kc_3 (gv_44_9 _) ?_
    refine zr_aload_n (pc' := 36) (i := 0) dX3_addRoad_35 rfl rfl rfl ?_
    refine zr_get (pc' := 39) dX3_addRoad_36 rfl ps_44 kd_44 fl_X3_52 kc_3 (gv_44_13 _) ?_
    refine zr_iload_n (pc' := 40) (i := 3) dX3_addRoad_39 rfl rfl rfl ?_
    refine zr_iast (pc' := 41) dX3_addRoad_40 rfl ps_53 kd_53 (by decide) h.1.1 h.1.2 (fun M3 hM1 => ?_)
    have h := h.2 M3 hM1
    refine zr_aload_n (pc' := 42) (i := 0) dX3_addRoad_41 rfl rfl rfl ?_
    refine zr_get (pc' := 45) dX3_addRoad_42 rfl ps_44 kd_44 fl_X3_39 kc_3 (gv_44_10 _) ?_
    refine zr_aload_n (pc' := 46) (i := 0) dX3_addRoad_45 rfl rfl rfl ?_
    refine zr_get (pc' := 49) dX3_addRoad_46 rfl ps_44 kd_44 fl_X3_52 kc_3 (gv_44_13 _) ?_
    refine zr_iload (pc' := 51) dX3_addRoad_49 rfl rfl ?_
    refine zr_iast (pc' := 52) dX3_addRoad_51 rfl ps_54 kd_54 (by decide) h.1.1 h.1.2 (fun M4 hM1 => ?_)
    have h := h.2 M4 hM1
    refine zr_aload_n (pc' := 53) (i := 0) dX3_addRoad_52 rfl rfl rfl ?_
    refine zr_get (pc' := 56) dX3_addRoad_53 rfl ps_44 kd_44 fl_X3_42 kc_3 (gv_44_11 _) ?_
    refine zr_aload_n (pc' := 57) (i := 0) dX3_addRoad_56 rfl rfl rfl ?_
    refine zr_get (pc' := 60) dX3_addRoad_57 rfl ps_44 kd_44 fl_X3_52 kc_3 (gv_44_13 _) ?_
    refine zr_iload (pc' := 62) dX3_addRoad_60 rfl rfl ?_
    refine zr_iast (pc' := 63) dX3_addRoad_62 rfl ps_55 kd_55 (by decide) h.1.1 h.1.2 (fun M5 hM1 => ?_)
    have h := h.2 M5 hM1
    refine zr_aload_n (pc' := 64) (i := 0) dX3_addRoad_63 rfl rfl rfl ?_
    refine zr_get (pc' := 67) dX3_addRoad_64 rfl ps_44 kd_44 fl_X3_45 kc_3 (gv_44_12 _) ?_
    refine zr_aload_n (pc' := 68) (i := 0) dX3_addRoad_67 rfl rfl rfl ?_
    refine zr_get (pc' := 71) dX3_addRoad_68 rfl ps_44 kd_44 fl_X3_52 kc_3 (gv_44_13 _) ?_
    refine zr_iload (pc' := 73) dX3_addRoad_71 rfl rfl ?_
    refine zr_iast (pc' := 74) dX3_addRoad_73 rfl ps_56 kd_56 (by decide) h.1.1 h.1.2 (fun M6 hM1 => ?_)
    have h := h.2 M6 hM1
    refine zr_aload_n (pc' := 75) (i := 0) dX3_addRoad_74 rfl rfl rfl ?_
    refine zr_dup (pc' := 76) dX3_addRoad_75 rfl rfl ?_
    refine zr_get (pc' := 79) dX3_addRoad_76 rfl ps_44 kd_44 fl_X3_52 kc_3 (gv_44_13 _) ?_
    refine zr_iconst (pc' := 80) dX3_addRoad_79 rfl ?_
    refine zr_iadd (pc' := 81) dX3_addRoad_80 rfl ?_
    refine zr_put (pc' := 84) dX3_addRoad_81 rfl ps_44 kd_44 fl_X3_52 kc_3 rfl nf_44_13 rfl trivial (fun M7 hM1 => ?_)
    have h := h M7 hM1
    refine zr_aload_n (pc' := 85) (i := 0) dX3_addRoad_84 rfl rfl rfl ?_
    refine zr_get (pc' := 88) dX3_addRoad_85 rfl ps_44 kd_44 fl_X3_52 kc_3 (gv_44_13 _) ?_
    refine zr_iconst (pc' := 89) dX3_addRoad_88 rfl ?_
    refine zr_isub (pc' := 90) dX3_addRoad_89 rfl ?_
    exact zr_ireturn dX3_addRoad_90 rfl rfl trivial (Nat.le_refl _) (Nat.le_refl _) (And.intro rfl h)
  · have h := h.2.2 hc
    refine zr_iconst (pc' := 10) dX3_addRoad_9 rfl ?_
    exact zr_ireturn dX3_addRoad_10 rfl rfl trivial (Nat.le_refl _) (Nat.le_refl _) (And.intro rfl h)
set_option maxRecDepth 20000 in
theorem vcX3_leavesIn {E : zE} {M : zM} {Q : Int → zM → Prop} (l1 l2 : Int)
    (h : (0 ≤ l1 ∧ l1 < 14) ∧ ((zR (M 55 l1.toNat)) ∧ (((M 55 l1.toNat) ≤ 0 → Q 0 M) ∧ (0 < (M 55 l1.toNat) → (zR l2 ∧ zR (M 55 l1.toNat) ∧ M 55 l1.toNat ≠ 0) ∧ ((zR (Int.tmod l2 (M 55 l1.toNat))) ∧ ((¬ (Int.tmod l2 (M 55 l1.toNat)) = 0 → Q 0 M) ∧ ((Int.tmod l2 (M 55 l1.toNat)) = 0 → Q 1 M)))))))
    : zP E mX3_leavesIn [.inr (.inr 44), .inl l1, .inl l2] M Q := by
  refine zP_of (by decide +kernel) rfl (Nat.le_of_ble_eq_true rfl) ?_
  show zA E zNN (0, 0) mX3_leavesIn 0 [(0, .inr (.inr 44)), (1, .inl l1), (2, .inl l2)] [] M (zQ Q)
  refine zr_aload_n (pc' := 1) (i := 0) dX3_leavesIn_0 rfl rfl rfl ?_
  refine zr_get (pc' := 4) dX3_leavesIn_1 rfl ps_44 kd_44 fl_X3_42 kc_3 (gv_44_11 _) ?_
  refine zr_iload_n (pc' := 5) (i := 1) dX3_leavesIn_4 rfl rfl rfl ?_
  refine zr_iald (pc' := 6) dX3_leavesIn_5 rfl ps_55 kd_55 (by decide) h.1.1 h.1.2 ?_
  have h := h.2
  refine zr_istore_n (pc' := 7) (i := 3) (al' := [(3, .inl (M 55 l1.toNat)), (0, .inr (.inr 44)), (1, .inl l1), (2, .inl l2)]) dX3_leavesIn_6 rfl rfl (by decide) rfl ?_
  refine zr_iload_n (pc' := 8) (i := 3) dX3_leavesIn_7 rfl rfl rfl ?_
  refine zr_if_le (tgt := 21) (pc' := 11) dX3_leavesIn_8 rfl rfl h.1 (fun hc => ?_) (fun hc => ?_)
  · have h := h.2.1 hc
    refine zr_iconst (pc' := 22) dX3_leavesIn_21 rfl ?_
    exact zr_ireturn dX3_leavesIn_22 rfl rfl (Or.inl rfl) (Nat.le_refl _) (Nat.le_refl _) (And.intro rfl h)
  · have h := h.2.2 hc
    refine zr_iload_n (pc' := 12) (i := 2) dX3_leavesIn_11 rfl rfl rfl ?_
    refine zr_iload_n (pc' := 13) (i := 3) dX3_leavesIn_12 rfl rfl rfl ?_
    refine zr_irem (pc' := 14) dX3_leavesIn_13 rfl h.1.1 h.1.2.1 h.1.2.2 ?_
    have h := h.2
    refine zr_if_ne (tgt := 21) (pc' := 17) dX3_leavesIn_14 rfl rfl h.1 (fun hc => ?_) (fun hc => ?_)
    · have h := h.2.1 hc
      refine zr_iconst (pc' := 22) dX3_leavesIn_21 rfl ?_
      exact zr_ireturn dX3_leavesIn_22 rfl rfl (Or.inl rfl) (Nat.le_refl _) (Nat.le_refl _) (And.intro rfl h)
    · have h := h.2.2 hc
      refine zr_iconst (pc' := 18) dX3_leavesIn_17 rfl ?_
      refine zr_goto (pc' := 22) dX3_leavesIn_18 rfl ?_
      exact zr_ireturn dX3_leavesIn_22 rfl rfl (Or.inr rfl) (Nat.le_refl _) (Nat.le_refl _) (And.intro rfl h)
set_option maxRecDepth 20000 in
theorem vcX3_allPeople {E : zE} {M : zM} {Q : Int → zM → Prop} (I4 : Nat → Int → Int → zM → Prop)
    (h : ∃ n', I4 n' 0 0 M)
    (h4 : ∀ (n : Nat) (l1 l2 : Int) (M : zM), I4 n l1 l2 M → ((zR l2 ∧ zR (M 44 6)) ∧ (((M 44 6) ≤ l2 → Q l1 M) ∧ (l2 < (M 44 6) → (0 ≤ l2 ∧ l2 < 8) ∧ ∃ n', n' < n ∧ I4 n' (l1 + (M 46 l2.toNat)) (l2 + 1) M))))
    : zP E mX3_allPeople [.inr (.inr 44)] M Q := by
  have key : ∀ n : Nat, (∀ (l1 l2 : Int) (M : zM), I4 n l1 l2 M → zA E zNN (0, 0) mX3_allPeople 4 [(0, .inr (.inr 44)), (1, .inl l1), (2, .inl l2)] [] M (zQ Q)) := by
    intro n
    induction n using Nat.strongRecOn with
    | ind n ih =>
      intro l1 l2 M h
      have h := h4 n l1 l2 M h
      refine zr_iload_n (pc' := 5) (i := 2) dX3_allPeople_4 rfl rfl rfl ?_
      refine zr_aload_n (pc' := 6) (i := 0) dX3_allPeople_5 rfl rfl rfl ?_
      refine zr_get (pc' := 9) dX3_allPeople_6 rfl ps_44 kd_44 fl_X3_48 kc_3 (gv_44_6 _) ?_
      refine zr_icmp_ge (tgt := 27) (pc' := 12) dX3_allPeople_9 rfl rfl h.1.1 h.1.2 (fun hc => ?_) (fun hc => ?_)
      · have h := h.2.1 hc
        refine zr_iload_n (pc' := 28) (i := 1) dX3_allPeople_27 rfl rfl rfl ?_
        exact zr_ireturn dX3_allPeople_28 rfl rfl trivial (Nat.le_refl _) (Nat.le_refl _) (And.intro rfl h)
      · have h := h.2.2 hc
        refine zr_iload_n (pc' := 13) (i := 1) dX3_allPeople_12 rfl rfl rfl ?_
        refine zr_aload_n (pc' := 14) (i := 0) dX3_allPeople_13 rfl rfl rfl ?_
        refine zr_get (pc' := 17) dX3_allPeople_14 rfl ps_44 kd_44 fl_X3_15 kc_3 (gv_44_1 _) ?_
        refine zr_iload_n (pc' := 18) (i := 2) dX3_allPeople_17 rfl rfl rfl ?_
        refine zr_iald (pc' := 19) dX3_allPeople_18 rfl ps_46 kd_46 (by decide) h.1.1 h.1.2 ?_
        have h := h.2
        refine zr_iadd (pc' := 20) dX3_allPeople_19 rfl ?_
        refine zr_istore_n (pc' := 21) (i := 1) (al' := [(1, .inl (l1 + (M 46 l2.toNat))), (0, .inr (.inr 44)), (2, .inl l2)]) dX3_allPeople_20 rfl rfl (by decide) rfl ?_
        refine zr_iinc (pc' := 24) (al' := [(2, .inl (l2 + 1)), (1, .inl (l1 + (M 46 l2.toNat))), (0, .inr (.inr 44))]) dX3_allPeople_21 rfl rfl (by decide) rfl ?_
        refine zr_goto (pc' := 4) dX3_allPeople_24 rfl ?_
        obtain ⟨n', hn, h⟩ := h
        exact zn_al ((ih n' hn) _ _ _ h) ⟨rfl, rfl, rfl, trivial⟩
  refine zP_of (by decide +kernel) rfl (Nat.le_of_ble_eq_true rfl) ?_
  show zA E zNN (0, 0) mX3_allPeople 0 [(0, .inr (.inr 44))] [] M (zQ Q)
  refine zr_iconst (pc' := 1) dX3_allPeople_0 rfl ?_
  refine zr_istore_n (pc' := 2) (i := 1) (al' := [(1, .inl 0), (0, .inr (.inr 44))]) dX3_allPeople_1 rfl rfl (by decide) rfl ?_
  refine zr_iconst (pc' := 3) dX3_allPeople_2 rfl ?_
  refine zr_istore_n (pc' := 4) (i := 2) (al' := [(2, .inl 0), (1, .inl 0), (0, .inr (.inr 44))]) dX3_allPeople_3 rfl rfl (by decide) rfl ?_
  obtain ⟨n', h⟩ := h
  exact zn_al ((key n') _ _ _ h) ⟨rfl, rfl, rfl, trivial⟩
set_option maxRecDepth 20000 in
theorem vcX4_start {E : zE} {M : zM} {Q : Int → zM → Prop} (l0 l1 l2 : Int) (hi0 : zIs_4 l0)
    (h : (∀ M1, M1 = zup M l0.toNat 1 (-1) → (∀ M2, M2 = zup M1 l0.toNat 2 (-1) → (∀ M3, M3 = zup M2 l0.toNat 3 l1 → (∀ M4, M4 = zup M3 l0.toNat 4 l2 → Q 0 M4)))))
    : zP E mX4_start [.inr (.inr l0), .inl l1, .inl l2] M Q := by
  refine zP_of (by decide +kernel) rfl (Nat.le_of_ble_eq_true rfl) ?_
  show zA E zNN (0, 0) mX4_start 0 [(0, .inr (.inr l0)), (1, .inl l1), (2, .inl l2)] [] M (zQ Q)
  refine zr_aload_n (pc' := 1) (i := 0) dX4_start_0 rfl rfl rfl ?_
  refine zr_iconst (pc' := 2) dX4_start_1 rfl ?_
  refine zr_put (pc' := 5) dX4_start_2 rfl (is_4_pos hi0) (is_4_kd hi0) fl_X4_9 kc_4 rfl (is_4_nf_1 hi0) rfl trivial (fun M1 hM1 => ?_)
  have h := h M1 hM1
  refine zr_aload_n (pc' := 6) (i := 0) dX4_start_5 rfl rfl rfl ?_
  refine zr_iconst (pc' := 7) dX4_start_6 rfl ?_
  refine zr_put (pc' := 10) dX4_start_7 rfl (is_4_pos hi0) (is_4_kd hi0) fl_X4_15 kc_4 rfl (is_4_nf_2 hi0) rfl trivial (fun M2 hM1 => ?_)
  have h := h M2 hM1
  refine zr_aload_n (pc' := 11) (i := 0) dX4_start_10 rfl rfl rfl ?_
  refine zr_iload_n (pc' := 12) (i := 1) dX4_start_11 rfl rfl rfl ?_
  refine zr_put (pc' := 15) dX4_start_12 rfl (is_4_pos hi0) (is_4_kd hi0) fl_X4_18 kc_4 rfl (is_4_nf_3 hi0) rfl trivial (fun M3 hM1 => ?_)
  have h := h M3 hM1
  refine zr_aload_n (pc' := 16) (i := 0) dX4_start_15 rfl rfl rfl ?_
  refine zr_iload_n (pc' := 17) (i := 2) dX4_start_16 rfl rfl rfl ?_
  refine zr_put (pc' := 20) dX4_start_17 rfl (is_4_pos hi0) (is_4_kd hi0) fl_X4_21 kc_4 rfl (is_4_nf_4 hi0) rfl trivial (fun M4 hM1 => ?_)
  have h := h M4 hM1
  exact zr_return (x := 0) dX4_start_20 rfl (Nat.le_refl _) (Nat.le_refl _) (And.intro rfl h)
set_option maxRecDepth 20000 in
theorem vcX4_offer {E : zE} {M : zM} {Q : Int → zM → Prop} (l0 l1 l2 l3 l4 : Int) (hi0 : zIs_4 l0)
    (h : ((zR l3 ∧ zR (M l0.toNat 3)) ∧ ((l3 < (M l0.toNat 3) → (∀ M1, M1 = zup M l0.toNat 1 l1 → (∀ M2, M2 = zup M1 l0.toNat 2 l2 → (∀ M3, M3 = zup M2 l0.toNat 3 l3 → (∀ M4, M4 = zup M3 l0.toNat 4 l4 → Q 0 M4))))) ∧ ((M l0.toNat 3) ≤ l3 → ((zR l3 ∧ zR (M l0.toNat 3)) ∧ ((¬ l3 = (M l0.toNat 3) → Q 0 M) ∧ (l3 = (M l0.toNat 3) → ((zR l4 ∧ zR (M l0.toNat 4)) ∧ (((M l0.toNat 4) ≤ l4 → Q 0 M) ∧ (l4 < (M l0.toNat 4) → (∀ M5, M5 = zup M l0.toNat 1 l1 → (∀ M6, M6 = zup M5 l0.toNat 2 l2 → (∀ M7, M7 = zup M6 l0.toNat 3 l3 → (∀ M8, M8 = zup M7 l0.toNat 4 l4 → Q 0 M8))))))))))))))
    : zP E mX4_offer [.inr (.inr l0), .inl l1, .inl l2, .inl l3, .inl l4] M Q := by
  refine zP_of (by decide +kernel) rfl (Nat.le_of_ble_eq_true rfl) ?_
  show zA E zNN (0, 0) mX4_offer 0 [(0, .inr (.inr l0)), (1, .inl l1), (2, .inl l2), (3, .inl l3), (4, .inl l4)] [] M (zQ Q)
  refine zr_iload_n (pc' := 1) (i := 3) dX4_offer_0 rfl rfl rfl ?_
  refine zr_aload_n (pc' := 2) (i := 0) dX4_offer_1 rfl rfl rfl ?_
  refine zr_get (pc' := 5) dX4_offer_2 rfl (is_4_pos hi0) (is_4_kd hi0) fl_X4_18 kc_4 (is_4_gv_3 hi0 _) ?_
  refine zr_icmp_lt (tgt := 25) (pc' := 8) dX4_offer_5 rfl rfl h.1.1 h.1.2 (fun hc => ?_) (fun hc => ?_)
  · have h := h.2.1 hc
    refine zr_aload_n (pc' := 26) (i := 0) dX4_offer_25 rfl rfl rfl ?_
    refine zr_iload_n (pc' := 27) (i := 1) dX4_offer_26 rfl rfl rfl ?_
    refine zr_put (pc' := 30) dX4_offer_27 rfl (is_4_pos hi0) (is_4_kd hi0) fl_X4_9 kc_4 rfl (is_4_nf_1 hi0) rfl trivial (fun M1 hM1 => ?_)
    have h := h M1 hM1
    refine zr_aload_n (pc' := 31) (i := 0) dX4_offer_30 rfl rfl rfl ?_
    refine zr_iload_n (pc' := 32) (i := 2) dX4_offer_31 rfl rfl rfl ?_
    refine zr_put (pc' := 35) dX4_offer_32 rfl (is_4_pos hi0) (is_4_kd hi0) fl_X4_15 kc_4 rfl (is_4_nf_2 hi0) rfl trivial (fun M2 hM1 => ?_)
    have h := h M2 hM1
    refine zr_aload_n (pc' := 36) (i := 0) dX4_offer_35 rfl rfl rfl ?_
    refine zr_iload_n (pc' := 37) (i := 3) dX4_offer_36 rfl rfl rfl ?_
    refine zr_put (pc' := 40) dX4_offer_37 rfl (is_4_pos hi0) (is_4_kd hi0) fl_X4_18 kc_4 rfl (is_4_nf_3 hi0) rfl trivial (fun M3 hM1 => ?_)
    have h := h M3 hM1
    refine zr_aload_n (pc' := 41) (i := 0) dX4_offer_40 rfl rfl rfl ?_
    refine zr_iload (pc' := 43) dX4_offer_41 rfl rfl ?_
    refine zr_put (pc' := 46) dX4_offer_43 rfl (is_4_pos hi0) (is_4_kd hi0) fl_X4_21 kc_4 rfl (is_4_nf_4 hi0) rfl trivial (fun M4 hM1 => ?_)
    have h := h M4 hM1
    exact zr_return (x := 0) dX4_offer_46 rfl (Nat.le_refl _) (Nat.le_refl _) (And.intro rfl h)
  · have h := h.2.2 hc
    refine zr_iload_n (pc' := 9) (i := 3) dX4_offer_8 rfl rfl rfl ?_
    refine zr_aload_n (pc' := 10) (i := 0) dX4_offer_9 rfl rfl rfl ?_
    refine zr_get (pc' := 13) dX4_offer_10 rfl (is_4_pos hi0) (is_4_kd hi0) fl_X4_18 kc_4 (is_4_gv_3 hi0 _) ?_
    refine zr_icmp_ne (tgt := 46) (pc' := 16) dX4_offer_13 rfl rfl h.1.1 h.1.2 (fun hc => ?_) (fun hc => ?_)
    · have h := h.2.1 hc
      exact zr_return (x := 0) dX4_offer_46 rfl (Nat.le_refl _) (Nat.le_refl _) (And.intro rfl h)
    · have h := h.2.2 hc
      refine zr_iload (pc' := 18) dX4_offer_16 rfl rfl ?_
      refine zr_aload_n (pc' := 19) (i := 0) dX4_offer_18 rfl rfl rfl ?_
      refine zr_get (pc' := 22) dX4_offer_19 rfl (is_4_pos hi0) (is_4_kd hi0) fl_X4_21 kc_4 (is_4_gv_4 hi0 _) ?_
      refine zr_icmp_ge (tgt := 46) (pc' := 25) dX4_offer_22 rfl rfl h.1.1 h.1.2 (fun hc => ?_) (fun hc => ?_)
      · have h := h.2.1 hc
        exact zr_return (x := 0) dX4_offer_46 rfl (Nat.le_refl _) (Nat.le_refl _) (And.intro rfl h)
      · have h := h.2.2 hc
        refine zr_aload_n (pc' := 26) (i := 0) dX4_offer_25 rfl rfl rfl ?_
        refine zr_iload_n (pc' := 27) (i := 1) dX4_offer_26 rfl rfl rfl ?_
        refine zr_put (pc' := 30) dX4_offer_27 rfl (is_4_pos hi0) (is_4_kd hi0) fl_X4_9 kc_4 rfl (is_4_nf_1 hi0) rfl trivial (fun M5 hM1 => ?_)
        have h := h M5 hM1
        refine zr_aload_n (pc' := 31) (i := 0) dX4_offer_30 rfl rfl rfl ?_
        refine zr_iload_n (pc' := 32) (i := 2) dX4_offer_31 rfl rfl rfl ?_
        refine zr_put (pc' := 35) dX4_offer_32 rfl (is_4_pos hi0) (is_4_kd hi0) fl_X4_15 kc_4 rfl (is_4_nf_2 hi0) rfl trivial (fun M6 hM1 => ?_)
        have h := h M6 hM1
        refine zr_aload_n (pc' := 36) (i := 0) dX4_offer_35 rfl rfl rfl ?_
        refine zr_iload_n (pc' := 37) (i := 3) dX4_offer_36 rfl rfl rfl ?_
        refine zr_put (pc' := 40) dX4_offer_37 rfl (is_4_pos hi0) (is_4_kd hi0) fl_X4_18 kc_4 rfl (is_4_nf_3 hi0) rfl trivial (fun M7 hM1 => ?_)
        have h := h M7 hM1
        refine zr_aload_n (pc' := 41) (i := 0) dX4_offer_40 rfl rfl rfl ?_
        refine zr_iload (pc' := 43) dX4_offer_41 rfl rfl ?_
        refine zr_put (pc' := 46) dX4_offer_43 rfl (is_4_pos hi0) (is_4_kd hi0) fl_X4_21 kc_4 rfl (is_4_nf_4 hi0) rfl trivial (fun M8 hM1 => ?_)
        have h := h M8 hM1
        exact zr_return (x := 0) dX4_offer_46 rfl (Nat.le_refl _) (Nat.le_refl _) (And.intro rfl h)
set_option maxRecDepth 20000 in
theorem vcX4_part {E : zE} {M : zM} {Q : Int → zM → Prop} (l0 l1 : Int) (hi0 : zIs_4 l0)
    (h : (zR l1 ∧ ((l1 < 0 ∨ 4 < l1) → Q (-1) M) ∧ (l1 = 0 → ((zR (M l0.toNat 1)) ∧ ((¬ (M l0.toNat 1) = (-1) → ((zR (M l0.toNat 2)) ∧ ((¬ (M l0.toNat 2) = (-1) → Q 2 M) ∧ ((M l0.toNat 2) = (-1) → Q 1 M)))) ∧ ((M l0.toNat 1) = (-1) → Q 0 M)))) ∧ (l1 = 1 → Q (M l0.toNat 1) M) ∧ (l1 = 2 → Q (M l0.toNat 2) M) ∧ (l1 = 3 → Q (M l0.toNat 3) M) ∧ (l1 = 4 → Q (M l0.toNat 4) M)))
    : zP E mX4_part [.inr (.inr l0), .inl l1] M Q := by
  refine zP_of (by decide +kernel) rfl (Nat.le_of_ble_eq_true rfl) ?_
  show zA E zNN (0, 0) mX4_part 0 [(0, .inr (.inr l0)), (1, .inl l1)] [] M (zQ Q)
  refine zr_iload_n (pc' := 1) (i := 1) dX4_part_0 rfl rfl rfl ?_
  by_cases hsw : l1 < 0 ∨ 4 < l1
  · refine zr_tableOut (tgt := 82) dX4_part_1 h.1 hsw rfl ?_
    have h := h.2.1 hsw
    refine zr_iconst (pc' := 83) dX4_part_82 rfl ?_
    exact zr_ireturn dX4_part_83 rfl rfl trivial (Nat.le_refl _) (Nat.le_refl _) (And.intro rfl h)
  · have hsx : l1 = 0 ∨ l1 = 1 ∨ l1 = 2 ∨ l1 = 3 ∨ l1 = 4 := by omega
    rcases hsx with hsx | hsx | hsx | hsx | hsx
    · refine zr_tableIn (off := 35) (tgt := 36) dX4_part_1 h.1 (by omega) (by omega) (by rw [hsx]; rfl) rfl ?_
      have h := h.2.2.1 hsx
      refine zr_aload_n (pc' := 37) (i := 0) dX4_part_36 rfl rfl rfl ?_
      refine zr_get (pc' := 40) dX4_part_37 rfl (is_4_pos hi0) (is_4_kd hi0) fl_X4_9 kc_4 (is_4_gv_1 hi0 _) ?_
      refine zr_iconst (pc' := 41) dX4_part_40 rfl ?_
      refine zr_icmp_ne (tgt := 48) (pc' := 44) dX4_part_41 rfl rfl h.1 (zRd rfl) (fun hc => ?_) (fun hc => ?_)
      · have h := h.2.1 hc
        refine zr_aload_n (pc' := 49) (i := 0) dX4_part_48 rfl rfl rfl ?_
        refine zr_get (pc' := 52) dX4_part_49 rfl (is_4_pos hi0) (is_4_kd hi0) fl_X4_15 kc_4 (is_4_gv_2 hi0 _) ?_
        refine zr_iconst (pc' := 53) dX4_part_52 rfl ?_
        refine zr_icmp_ne (tgt := 60) (pc' := 56) dX4_part_53 rfl rfl h.1 (zRd rfl) (fun hc => ?_) (fun hc => ?_)
        · have h := h.2.1 hc
          refine zr_iconst (pc' := 61) dX4_part_60 rfl ?_
          exact zr_ireturn dX4_part_61 rfl rfl trivial (Nat.le_refl _) (Nat.le_refl _) (And.intro rfl h)
        · have h := h.2.2 hc
          refine zr_iconst (pc' := 57) dX4_part_56 rfl ?_
          refine zr_goto (pc' := 61) dX4_part_57 rfl ?_
          exact zr_ireturn dX4_part_61 rfl rfl trivial (Nat.le_refl _) (Nat.le_refl _) (And.intro rfl h)
      · have h := h.2.2 hc
        refine zr_iconst (pc' := 45) dX4_part_44 rfl ?_
        refine zr_goto (pc' := 61) dX4_part_45 rfl ?_
        exact zr_ireturn dX4_part_61 rfl rfl trivial (Nat.le_refl _) (Nat.le_refl _) (And.intro rfl h)
    · refine zr_tableIn (off := 61) (tgt := 62) dX4_part_1 h.1 (by omega) (by omega) (by rw [hsx]; rfl) rfl ?_
      have h := h.2.2.2.1 hsx
      refine zr_aload_n (pc' := 63) (i := 0) dX4_part_62 rfl rfl rfl ?_
      refine zr_get (pc' := 66) dX4_part_63 rfl (is_4_pos hi0) (is_4_kd hi0) fl_X4_9 kc_4 (is_4_gv_1 hi0 _) ?_
      exact zr_ireturn dX4_part_66 rfl rfl trivial (Nat.le_refl _) (Nat.le_refl _) (And.intro rfl h)
    · refine zr_tableIn (off := 66) (tgt := 67) dX4_part_1 h.1 (by omega) (by omega) (by rw [hsx]; rfl) rfl ?_
      have h := h.2.2.2.2.1 hsx
      refine zr_aload_n (pc' := 68) (i := 0) dX4_part_67 rfl rfl rfl ?_
      refine zr_get (pc' := 71) dX4_part_68 rfl (is_4_pos hi0) (is_4_kd hi0) fl_X4_15 kc_4 (is_4_gv_2 hi0 _) ?_
      exact zr_ireturn dX4_part_71 rfl rfl trivial (Nat.le_refl _) (Nat.le_refl _) (And.intro rfl h)
    · refine zr_tableIn (off := 71) (tgt := 72) dX4_part_1 h.1 (by omega) (by omega) (by rw [hsx]; rfl) rfl ?_
      have h := h.2.2.2.2.2.1 hsx
      refine zr_aload_n (pc' := 73) (i := 0) dX4_part_72 rfl rfl rfl ?_
      refine zr_get (pc' := 76) dX4_part_73 rfl (is_4_pos hi0) (is_4_kd hi0) fl_X4_18 kc_4 (is_4_gv_3 hi0 _) ?_
      exact zr_ireturn dX4_part_76 rfl rfl trivial (Nat.le_refl _) (Nat.le_refl _) (And.intro rfl h)
    · refine zr_tableIn (off := 76) (tgt := 77) dX4_part_1 h.1 (by omega) (by omega) (by rw [hsx]; rfl) rfl ?_
      have h := h.2.2.2.2.2.2 hsx
      refine zr_aload_n (pc' := 78) (i := 0) dX4_part_77 rfl rfl rfl ?_
      refine zr_get (pc' := 81) dX4_part_78 rfl (is_4_pos hi0) (is_4_kd hi0) fl_X4_21 kc_4 (is_4_gv_4 hi0 _) ?_
      exact zr_ireturn dX4_part_81 rfl rfl trivial (Nat.le_refl _) (Nat.le_refl _) (And.intro rfl h)
set_option maxRecDepth 20000 in
theorem vcX5_hasPost {E : zE} {M : zM} {Q : Int → zM → Prop} (l1 : Int)
    (h : (zP E mX11_within [.inl l1, .inl 0, .inl ((M 20 1) - 1)] M (fun r1 M2 => ((r1 = 0 ∨ r1 = 1) ∧ Q r1 M2))))
    : zP E mX5_hasPost [.inr (.inr 20), .inl l1] M Q := by
  refine zP_of (by decide +kernel) rfl (Nat.le_of_ble_eq_true rfl) ?_
  show zA E zNN (0, 0) mX5_hasPost 0 [(0, .inr (.inr 20)), (1, .inl l1)] [] M (zQ Q)
  refine zr_iload_n (pc' := 1) (i := 1) dX5_hasPost_0 rfl rfl rfl ?_
  refine zr_iconst (pc' := 2) dX5_hasPost_1 rfl ?_
  refine zr_aload_n (pc' := 3) (i := 0) dX5_hasPost_2 rfl rfl rfl ?_
  refine zr_get (pc' := 6) dX5_hasPost_3 rfl ps_20 kd_20 fl_X5_40 kc_5 (gv_20_1 _) ?_
  refine zr_iconst (pc' := 7) dX5_hasPost_6 rfl ?_
  refine zr_isub (pc' := 8) dX5_hasPost_7 rfl ?_
  refine zn_callSN (pc' := 11) (args := [.inl l1, .inl 0, .inl ((M 20 1) - 1)]) (st := []) (st' := fun r1 => [.inl r1]) dX5_hasPost_8 rfl cs_X5_44 ⟨rfl, rfl, by decide, by decide⟩ rfl rfl rfl (Nat.le_of_ble_eq_true rfl) (fun _ => rfl) h ?_
  intro r1 M2 h
  exact zr_ireturn dX5_hasPost_11 rfl rfl h.1 (Nat.le_refl _) (Nat.le_refl _) (And.intro rfl h.2)
set_option maxRecDepth 20000 in
theorem vcX5_addPost {E : zE} {M : zM} {Q : Int → zM → Prop} (l1 : Int)
    (h : (zP E mX11_within [.inl l1, .inl 0, .inl 3] M (fun r1 M2 => ((zR r1) ∧ ((r1 = 0 → Q (-1) M2) ∧ (¬ r1 = 0 → ((zR (M2 20 1)) ∧ (((M2 20 1) < 8 → (0 ≤ M2 20 1 ∧ M2 20 1 < 8) ∧ (∀ M3, M3 = zup M2 21 ((M2 20 1).toNat) l1 → (∀ M4, M4 = zup M3 20 1 ((M3 20 1) + 1) → Q ((M4 20 1) - 1) M4))) ∧ (8 ≤ (M2 20 1) → Q (-1) M2)))))))))
    : zP E mX5_addPost [.inr (.inr 20), .inl l1] M Q := by
  refine zP_of (by decide +kernel) rfl (Nat.le_of_ble_eq_true rfl) ?_
  show zA E zNN (0, 0) mX5_addPost 0 [(0, .inr (.inr 20)), (1, .inl l1)] [] M (zQ Q)
  refine zr_iload_n (pc' := 1) (i := 1) dX5_addPost_0 rfl rfl rfl ?_
  refine zr_iconst (pc' := 2) dX5_addPost_1 rfl ?_
  refine zr_iconst (pc' := 3) dX5_addPost_2 rfl ?_
  refine zn_callSN (pc' := 6) (args := [.inl l1, .inl 0, .inl 3]) (st := []) (st' := fun r1 => [.inl r1]) dX5_addPost_3 rfl cs_X5_44 ⟨rfl, rfl, by decide, by decide⟩ rfl rfl rfl (Nat.le_of_ble_eq_true rfl) (fun _ => rfl) h ?_
  intro r1 M2 h
  refine zr_if_eq (tgt := 18) (pc' := 9) dX5_addPost_6 rfl rfl h.1 (fun hc => ?_) (fun hc => ?_)
  · have h := h.2.1 hc
    refine zr_iconst (pc' := 19) dX5_addPost_18 rfl ?_
    exact zr_ireturn dX5_addPost_19 rfl rfl trivial (Nat.le_refl _) (Nat.le_refl _) (And.intro rfl h)
  · have h := h.2.2 hc
    refine zr_aload_n (pc' := 10) (i := 0) dX5_addPost_9 rfl rfl rfl ?_
    refine zr_get (pc' := 13) dX5_addPost_10 rfl ps_20 kd_20 fl_X5_40 kc_5 (gv_20_1 _) ?_
    refine zr_bipush (pc' := 15) dX5_addPost_13 rfl rfl ?_
    refine zr_icmp_lt (tgt := 20) (pc' := 18) dX5_addPost_15 rfl rfl h.1 (zRd rfl) (fun hc => ?_) (fun hc => ?_)
    · have h := h.2.1 hc
      refine zr_aload_n (pc' := 21) (i := 0) dX5_addPost_20 rfl rfl rfl ?_
      refine zr_get (pc' := 24) dX5_addPost_21 rfl ps_20 kd_20 fl_X5_11 kc_5 (gv_20_0 _) ?_
      refine zr_aload_n (pc' := 25) (i := 0) dX5_addPost_24 rfl rfl rfl ?_
      refine zr_get (pc' := 28) dX5_addPost_25 rfl ps_20 kd_20 fl_X5_40 kc_5 (gv_20_1 _) ?_
      refine zr_iload_n (pc' := 29) (i := 1) dX5_addPost_28 rfl rfl rfl ?_
      refine zr_iast (pc' := 30) dX5_addPost_29 rfl ps_21 kd_21 (by decide) h.1.1 h.1.2 (fun M3 hM1 => ?_)
      have h := h.2 M3 hM1
      refine zr_aload_n (pc' := 31) (i := 0) dX5_addPost_30 rfl rfl rfl ?_
      refine zr_dup (pc' := 32) dX5_addPost_31 rfl rfl ?_
      refine zr_get (pc' := 35) dX5_addPost_32 rfl ps_20 kd_20 fl_X5_40 kc_5 (gv_20_1 _) ?_
      refine zr_iconst (pc' := 36) dX5_addPost_35 rfl ?_
      refine zr_iadd (pc' := 37) dX5_addPost_36 rfl ?_
      refine zr_put (pc' := 40) dX5_addPost_37 rfl ps_20 kd_20 fl_X5_40 kc_5 rfl nf_20_1 rfl trivial (fun M4 hM1 => ?_)
      have h := h M4 hM1
      refine zr_aload_n (pc' := 41) (i := 0) dX5_addPost_40 rfl rfl rfl ?_
      refine zr_get (pc' := 44) dX5_addPost_41 rfl ps_20 kd_20 fl_X5_40 kc_5 (gv_20_1 _) ?_
      refine zr_iconst (pc' := 45) dX5_addPost_44 rfl ?_
      refine zr_isub (pc' := 46) dX5_addPost_45 rfl ?_
      exact zr_ireturn dX5_addPost_46 rfl rfl trivial (Nat.le_refl _) (Nat.le_refl _) (And.intro rfl h)
    · have h := h.2.2 hc
      refine zr_iconst (pc' := 19) dX5_addPost_18 rfl ?_
      exact zr_ireturn dX5_addPost_19 rfl rfl trivial (Nat.le_refl _) (Nat.le_refl _) (And.intro rfl h)
set_option maxRecDepth 20000 in
theorem vcX5_tell {E : zE} {M : zM} {Q : Int → zM → Prop} (l1 l2 l3 l4 l5 : Int)
    (h : ((zR l5) ∧ ((¬ l5 = 0 → (zP E mX5_hasPost [.inr (.inr 20), .inl l1] M (fun r1 M2 => ((zR r1) ∧ ((r1 = 0 → Q (-1) M2) ∧ (¬ r1 = 0 → (zP E mX11_isHour [.inl l2] M2 (fun r3 M4 => ((zR r3) ∧ ((r3 = 0 → Q (-1) M4) ∧ (¬ r3 = 0 → ((zR (M4 20 6)) ∧ (((M4 20 6) < 400 → (0 ≤ M4 20 6 ∧ M4 20 6 < 400) ∧ (∀ M5, M5 = zup M4 24 ((M4 20 6).toNat) l3 → ((zR l5) ∧ ((l5 = 0 → (0 ≤ M5 20 6 ∧ M5 20 6 < 400) ∧ (∀ M6, M6 = zup M5 25 ((M5 20 6).toNat) l4 → (0 ≤ (l1 * 100) + l2 ∧ (l1 * 100) + l2 < 800) ∧ (0 ≤ M6 20 6 ∧ M6 20 6 < 400) ∧ (∀ M7, M7 = zup M6 23 ((M6 20 6).toNat) (M6 22 (((l1 * 100) + l2).toNat)) → (0 ≤ (l1 * 100) + l2 ∧ (l1 * 100) + l2 < 800) ∧ (∀ M8, M8 = zup M7 22 (((l1 * 100) + l2).toNat) (M7 20 6) → (∀ M9, M9 = zup M8 20 6 ((M8 20 6) + 1) → Q (M9 20 6) M9))))) ∧ (¬ l5 = 0 → (0 ≤ M5 20 6 ∧ M5 20 6 < 400) ∧ (∀ M10, M10 = zup M5 25 ((M5 20 6).toNat) (-10000) → (0 ≤ (l1 * 100) + l2 ∧ (l1 * 100) + l2 < 800) ∧ (0 ≤ M10 20 6 ∧ M10 20 6 < 400) ∧ (∀ M11, M11 = zup M10 23 ((M10 20 6).toNat) (M10 22 (((l1 * 100) + l2).toNat)) → (0 ≤ (l1 * 100) + l2 ∧ (l1 * 100) + l2 < 800) ∧ (∀ M12, M12 = zup M11 22 (((l1 * 100) + l2).toNat) (M11 20 6) → (∀ M13, M13 = zup M12 20 6 ((M12 20 6) + 1) → Q (M13 20 6) M13))))))))) ∧ (400 ≤ (M4 20 6) → Q (-1) M4)))))))))))))) ∧ (l5 = 0 → (zP E mX11_within [.inl l4, .inl (-9999), .inl 9999] M (fun r14 M15 => ((zR r14) ∧ ((r14 = 0 → (zP E mX5_hasPost [.inr (.inr 20), .inl l1] M15 (fun r16 M17 => ((zR r16) ∧ ((r16 = 0 → Q (-1) M17) ∧ (¬ r16 = 0 → (zP E mX11_isHour [.inl l2] M17 (fun r18 M19 => ((zR r18) ∧ ((r18 = 0 → Q (-1) M19) ∧ (¬ r18 = 0 → Q (-1) M19))))))))))) ∧ (¬ r14 = 0 → (zP E mX5_hasPost [.inr (.inr 20), .inl l1] M15 (fun r20 M21 => ((zR r20) ∧ ((r20 = 0 → Q (-1) M21) ∧ (¬ r20 = 0 → (zP E mX11_isHour [.inl l2] M21 (fun r22 M23 => ((zR r22) ∧ ((r22 = 0 → Q (-1) M23) ∧ (¬ r22 = 0 → ((zR (M23 20 6)) ∧ (((M23 20 6) < 400 → (0 ≤ M23 20 6 ∧ M23 20 6 < 400) ∧ (∀ M24, M24 = zup M23 24 ((M23 20 6).toNat) l3 → ((zR l5) ∧ ((l5 = 0 → (0 ≤ M24 20 6 ∧ M24 20 6 < 400) ∧ (∀ M25, M25 = zup M24 25 ((M24 20 6).toNat) l4 → (0 ≤ (l1 * 100) + l2 ∧ (l1 * 100) + l2 < 800) ∧ (0 ≤ M25 20 6 ∧ M25 20 6 < 400) ∧ (∀ M26, M26 = zup M25 23 ((M25 20 6).toNat) (M25 22 (((l1 * 100) + l2).toNat)) → (0 ≤ (l1 * 100) + l2 ∧ (l1 * 100) + l2 < 800) ∧ (∀ M27, M27 = zup M26 22 (((l1 * 100) + l2).toNat) (M26 20 6) → (∀ M28, M28 = zup M27 20 6 ((M27 20 6) + 1) → Q (M28 20 6) M28))))) ∧ (¬ l5 = 0 → (0 ≤ M24 20 6 ∧ M24 20 6 < 400) ∧ (∀ M29, M29 = zup M24 25 ((M24 20 6).toNat) (-10000) → (0 ≤ (l1 * 100) + l2 ∧ (l1 * 100) + l2 < 800) ∧ (0 ≤ M29 20 6 ∧ M29 20 6 < 400) ∧ (∀ M30, M30 = zup M29 23 ((M29 20 6).toNat) (M29 22 (((l1 * 100) + l2).toNat)) → (0 ≤ (l1 * 100) + l2 ∧ (l1 * 100) + l2 < 800) ∧ (∀ M31, M31 = zup M30 22 (((l1 * 100) + l2).toNat) (M30 20 6) → (∀ M32, M32 = zup M31 20 6 ((M31 20 6) + 1) → Q (M32 20 6) M32))))))))) ∧ (400 ≤ (M23 20 6) → Q (-1) M23))))))))))))))))))))))
    : zP E mX5_tell [.inr (.inr 20), .inl l1, .inl l2, .inl l3, .inl l4, .inl l5] M Q := by
  refine zP_of (by decide +kernel) rfl (Nat.le_of_ble_eq_true rfl) ?_
  show zA E zNN (0, 0) mX5_tell 0 [(0, .inr (.inr 20)), (1, .inl l1), (2, .inl l2), (3, .inl l3), (4, .inl l4), (5, .inl l5)] [] M (zQ Q)
  refine zr_iload (pc' := 2) dX5_tell_0 rfl rfl ?_
  refine zr_if_ne (tgt := 19) (pc' := 5) dX5_tell_2 rfl rfl h.1 (fun hc => ?_) (fun hc => ?_)
  · have h := h.2.1 hc
    refine zr_iconst (pc' := 20) dX5_tell_19 rfl ?_
    refine zr_goto (pc' := 24) dX5_tell_20 rfl ?_
    refine zr_istore (pc' := 26) (al' := [(6, .inl 1), (0, .inr (.inr 20)), (1, .inl l1), (2, .inl l2), (3, .inl l3), (4, .inl l4), (5, .inl l5)]) dX5_tell_24 rfl (by decide) rfl ?_
    refine zr_aload_n (pc' := 27) (i := 0) dX5_tell_26 rfl rfl rfl ?_
    refine zr_iload_n (pc' := 28) (i := 1) dX5_tell_27 rfl rfl rfl ?_
    refine zn_callV (pc' := 31) (args := [.inl l1]) (st := []) (st' := fun r1 => [.inl r1]) dX5_tell_28 rfl cv_X5_48 ⟨rfl, rfl, by decide, by decide⟩ rfl ps_20 kd_20 rfl rfl (Nat.le_of_ble_eq_true rfl) (fun _ => rfl) h ?_
    intro r1 M2 h
    refine zr_if_eq (tgt := 56) (pc' := 34) dX5_tell_31 rfl rfl h.1 (fun hc => ?_) (fun hc => ?_)
    · have h := h.2.1 hc
      refine zr_iconst (pc' := 57) dX5_tell_56 rfl ?_
      exact zr_ireturn dX5_tell_57 rfl rfl trivial (Nat.le_refl _) (Nat.le_refl _) (And.intro rfl h)
    · have h := h.2.2 hc
      refine zr_iload_n (pc' := 35) (i := 2) dX5_tell_34 rfl rfl rfl ?_
      refine zn_callSN (pc' := 38) (args := [.inl l2]) (st := []) (st' := fun r3 => [.inl r3]) dX5_tell_35 rfl cs_X5_52 ⟨rfl, rfl, by decide, by decide⟩ rfl rfl rfl (Nat.le_of_ble_eq_true rfl) (fun _ => rfl) h ?_
      intro r3 M4 h
      refine zr_if_eq (tgt := 56) (pc' := 41) dX5_tell_38 rfl rfl h.1 (fun hc => ?_) (fun hc => ?_)
      · have h := h.2.1 hc
        refine zr_iconst (pc' := 57) dX5_tell_56 rfl ?_
        exact zr_ireturn dX5_tell_57 rfl rfl trivial (Nat.le_refl _) (Nat.le_refl _) (And.intro rfl h)
      · have h := h.2.2 hc
        refine zr_iload (pc' := 43) dX5_tell_41 rfl rfl ?_
        refine zr_if_eq (tgt := 56) (pc' := 46) dX5_tell_43 rfl rfl (zRd rfl) (fun hc => absurd hc (by decide)) (fun _ => ?_)
        refine zr_aload_n (pc' := 47) (i := 0) dX5_tell_46 rfl rfl rfl ?_
        refine zr_get (pc' := 50) dX5_tell_47 rfl ps_20 kd_20 fl_X5_55 kc_5 (gv_20_6 _) ?_
        refine zr_sipush (pc' := 53) dX5_tell_50 rfl rfl ?_
        refine zr_icmp_lt (tgt := 58) (pc' := 56) dX5_tell_53 rfl rfl h.1 (zRd rfl) (fun hc => ?_) (fun hc => ?_)
        · have h := h.2.1 hc
          refine zr_iload_n (pc' := 59) (i := 1) dX5_tell_58 rfl rfl rfl ?_
          refine zr_bipush (pc' := 61) dX5_tell_59 rfl rfl ?_
          refine zr_imul (pc' := 62) dX5_tell_61 rfl ?_
          refine zr_iload_n (pc' := 63) (i := 2) dX5_tell_62 rfl rfl rfl ?_
          refine zr_iadd (pc' := 64) dX5_tell_63 rfl ?_
          refine zr_istore (pc' := 66) (al' := [(7, .inl ((l1 * 100) + l2)), (6, .inl 1), (0, .inr (.inr 20)), (1, .inl l1), (2, .inl l2), (3, .inl l3), (4, .inl l4), (5, .inl l5)]) dX5_tell_64 rfl (by decide) rfl ?_
          refine zr_aload_n (pc' := 67) (i := 0) dX5_tell_66 rfl rfl rfl ?_
          refine zr_get (pc' := 70) dX5_tell_67 rfl ps_20 kd_20 fl_X5_21 kc_5 (gv_20_4 _) ?_
          refine zr_aload_n (pc' := 71) (i := 0) dX5_tell_70 rfl rfl rfl ?_
          refine zr_get (pc' := 74) dX5_tell_71 rfl ps_20 kd_20 fl_X5_55 kc_5 (gv_20_6 _) ?_
          refine zr_iload_n (pc' := 75) (i := 3) dX5_tell_74 rfl rfl rfl ?_
          refine zr_iast (pc' := 76) dX5_tell_75 rfl ps_24 kd_24 (by decide) h.1.1 h.1.2 (fun M5 hM1 => ?_)
          have h := h.2 M5 hM1
          refine zr_aload_n (pc' := 77) (i := 0) dX5_tell_76 rfl rfl rfl ?_
          refine zr_get (pc' := 80) dX5_tell_77 rfl ps_20 kd_20 fl_X5_24 kc_5 (gv_20_5 _) ?_
          refine zr_aload_n (pc' := 81) (i := 0) dX5_tell_80 rfl rfl rfl ?_
          refine zr_get (pc' := 84) dX5_tell_81 rfl ps_20 kd_20 fl_X5_55 kc_5 (gv_20_6 _) ?_
          refine zr_iload (pc' := 86) dX5_tell_84 rfl rfl ?_
          refine zr_if_eq (tgt := 95) (pc' := 89) dX5_tell_86 rfl rfl h.1 (fun hc => ?_) (fun hc => ?_)
          · have h := h.2.1 hc
            refine zr_iload (pc' := 97) dX5_tell_95 rfl rfl ?_
            refine zr_iast (pc' := 98) dX5_tell_97 rfl ps_25 kd_25 (by decide) h.1.1 h.1.2 (fun M6 hM1 => ?_)
            have h := h.2 M6 hM1
            refine zr_aload_n (pc' := 99) (i := 0) dX5_tell_98 rfl rfl rfl ?_
            refine zr_get (pc' := 102) dX5_tell_99 rfl ps_20 kd_20 fl_X5_18 kc_5 (gv_20_3 _) ?_
            refine zr_aload_n (pc' := 103) (i := 0) dX5_tell_102 rfl rfl rfl ?_
            refine zr_get (pc' := 106) dX5_tell_103 rfl ps_20 kd_20 fl_X5_55 kc_5 (gv_20_6 _) ?_
            refine zr_aload_n (pc' := 107) (i := 0) dX5_tell_106 rfl rfl rfl ?_
            refine zr_get (pc' := 110) dX5_tell_107 rfl ps_20 kd_20 fl_X5_15 kc_5 (gv_20_2 _) ?_
            refine zr_iload (pc' := 112) dX5_tell_110 rfl rfl ?_
            refine zr_iald (pc' := 113) dX5_tell_112 rfl ps_22 kd_22 (by decide) h.1.1 h.1.2 ?_
            have h := h.2
            refine zr_iast (pc' := 114) dX5_tell_113 rfl ps_23 kd_23 (by decide) h.1.1 h.1.2 (fun M7 hM1 => ?_)
            have h := h.2 M7 hM1
            refine zr_aload_n (pc' := 115) (i := 0) dX5_tell_114 rfl rfl rfl ?_
            refine zr_get (pc' := 118) dX5_tell_115 rfl ps_20 kd_20 fl_X5_15 kc_5 (gv_20_2 _) ?_
            refine zr_iload (pc' := 120) dX5_tell_118 rfl rfl ?_
            refine zr_aload_n (pc' := 121) (i := 0) dX5_tell_120 rfl rfl rfl ?_
            refine zr_get (pc' := 124) dX5_tell_121 rfl ps_20 kd_20 fl_X5_55 kc_5 (gv_20_6 _) ?_
            refine zr_iast (pc' := 125) dX5_tell_124 rfl ps_22 kd_22 (by decide) h.1.1 h.1.2 (fun M8 hM1 => ?_)
            have h := h.2 M8 hM1
            refine zr_aload_n (pc' := 126) (i := 0) dX5_tell_125 rfl rfl rfl ?_
            refine zr_dup (pc' := 127) dX5_tell_126 rfl rfl ?_
            refine zr_get (pc' := 130) dX5_tell_127 rfl ps_20 kd_20 fl_X5_55 kc_5 (gv_20_6 _) ?_
            refine zr_iconst (pc' := 131) dX5_tell_130 rfl ?_
            refine zr_iadd (pc' := 132) dX5_tell_131 rfl ?_
            refine zr_put (pc' := 135) dX5_tell_132 rfl ps_20 kd_20 fl_X5_55 kc_5 rfl nf_20_6 rfl trivial (fun M9 hM1 => ?_)
            have h := h M9 hM1
            refine zr_aload_n (pc' := 136) (i := 0) dX5_tell_135 rfl rfl rfl ?_
            refine zr_get (pc' := 139) dX5_tell_136 rfl ps_20 kd_20 fl_X5_55 kc_5 (gv_20_6 _) ?_
            exact zr_ireturn dX5_tell_139 rfl rfl trivial (Nat.le_refl _) (Nat.le_refl _) (And.intro rfl h)
          · have h := h.2.2 hc
            refine zr_sipush (pc' := 92) dX5_tell_89 rfl rfl ?_
            refine zr_goto (pc' := 97) dX5_tell_92 rfl ?_
            refine zr_iast (pc' := 98) dX5_tell_97 rfl ps_25 kd_25 (by decide) h.1.1 h.1.2 (fun M10 hM1 => ?_)
            have h := h.2 M10 hM1
            refine zr_aload_n (pc' := 99) (i := 0) dX5_tell_98 rfl rfl rfl ?_
            refine zr_get (pc' := 102) dX5_tell_99 rfl ps_20 kd_20 fl_X5_18 kc_5 (gv_20_3 _) ?_
            refine zr_aload_n (pc' := 103) (i := 0) dX5_tell_102 rfl rfl rfl ?_
            refine zr_get (pc' := 106) dX5_tell_103 rfl ps_20 kd_20 fl_X5_55 kc_5 (gv_20_6 _) ?_
            refine zr_aload_n (pc' := 107) (i := 0) dX5_tell_106 rfl rfl rfl ?_
            refine zr_get (pc' := 110) dX5_tell_107 rfl ps_20 kd_20 fl_X5_15 kc_5 (gv_20_2 _) ?_
            refine zr_iload (pc' := 112) dX5_tell_110 rfl rfl ?_
            refine zr_iald (pc' := 113) dX5_tell_112 rfl ps_22 kd_22 (by decide) h.1.1 h.1.2 ?_
            have h := h.2
            refine zr_iast (pc' := 114) dX5_tell_113 rfl ps_23 kd_23 (by decide) h.1.1 h.1.2 (fun M11 hM1 => ?_)
            have h := h.2 M11 hM1
            refine zr_aload_n (pc' := 115) (i := 0) dX5_tell_114 rfl rfl rfl ?_
            refine zr_get (pc' := 118) dX5_tell_115 rfl ps_20 kd_20 fl_X5_15 kc_5 (gv_20_2 _) ?_
            refine zr_iload (pc' := 120) dX5_tell_118 rfl rfl ?_
            refine zr_aload_n (pc' := 121) (i := 0) dX5_tell_120 rfl rfl rfl ?_
            refine zr_get (pc' := 124) dX5_tell_121 rfl ps_20 kd_20 fl_X5_55 kc_5 (gv_20_6 _) ?_
            refine zr_iast (pc' := 125) dX5_tell_124 rfl ps_22 kd_22 (by decide) h.1.1 h.1.2 (fun M12 hM1 => ?_)
            have h := h.2 M12 hM1
            refine zr_aload_n (pc' := 126) (i := 0) dX5_tell_125 rfl rfl rfl ?_
            refine zr_dup (pc' := 127) dX5_tell_126 rfl rfl ?_
            refine zr_get (pc' := 130) dX5_tell_127 rfl ps_20 kd_20 fl_X5_55 kc_5 (gv_20_6 _) ?_
            refine zr_iconst (pc' := 131) dX5_tell_130 rfl ?_
            refine zr_iadd (pc' := 132) dX5_tell_131 rfl ?_
            refine zr_put (pc' := 135) dX5_tell_132 rfl ps_20 kd_20 fl_X5_55 kc_5 rfl nf_20_6 rfl trivial (fun M13 hM1 => ?_)
            have h := h M13 hM1
            refine zr_aload_n (pc' := 136) (i := 0) dX5_tell_135 rfl rfl rfl ?_
            refine zr_get (pc' := 139) dX5_tell_136 rfl ps_20 kd_20 fl_X5_55 kc_5 (gv_20_6 _) ?_
            exact zr_ireturn dX5_tell_139 rfl rfl trivial (Nat.le_refl _) (Nat.le_refl _) (And.intro rfl h)
        · have h := h.2.2 hc
          refine zr_iconst (pc' := 57) dX5_tell_56 rfl ?_
          exact zr_ireturn dX5_tell_57 rfl rfl trivial (Nat.le_refl _) (Nat.le_refl _) (And.intro rfl h)
  · have h := h.2.2 hc
    refine zr_iload (pc' := 7) dX5_tell_5 rfl rfl ?_
    refine zr_sipush (pc' := 10) dX5_tell_7 rfl rfl ?_
    refine zr_sipush (pc' := 13) dX5_tell_10 rfl rfl ?_
    refine zn_callSN (pc' := 16) (args := [.inl l4, .inl (-9999), .inl 9999]) (st := []) (st' := fun r14 => [.inl r14]) dX5_tell_13 rfl cs_X5_44 ⟨rfl, rfl, by decide, by decide⟩ rfl rfl rfl (Nat.le_of_ble_eq_true rfl) (fun _ => rfl) h ?_
    intro r14 M15 h
    refine zr_if_eq (tgt := 23) (pc' := 19) dX5_tell_16 rfl rfl h.1 (fun hc => ?_) (fun hc => ?_)
    · have h := h.2.1 hc
      refine zr_iconst (pc' := 24) dX5_tell_23 rfl ?_
      refine zr_istore (pc' := 26) (al' := [(6, .inl 0), (0, .inr (.inr 20)), (1, .inl l1), (2, .inl l2), (3, .inl l3), (4, .inl l4), (5, .inl l5)]) dX5_tell_24 rfl (by decide) rfl ?_
      refine zr_aload_n (pc' := 27) (i := 0) dX5_tell_26 rfl rfl rfl ?_
      refine zr_iload_n (pc' := 28) (i := 1) dX5_tell_27 rfl rfl rfl ?_
      refine zn_callV (pc' := 31) (args := [.inl l1]) (st := []) (st' := fun r16 => [.inl r16]) dX5_tell_28 rfl cv_X5_48 ⟨rfl, rfl, by decide, by decide⟩ rfl ps_20 kd_20 rfl rfl (Nat.le_of_ble_eq_true rfl) (fun _ => rfl) h ?_
      intro r16 M17 h
      refine zr_if_eq (tgt := 56) (pc' := 34) dX5_tell_31 rfl rfl h.1 (fun hc => ?_) (fun hc => ?_)
      · have h := h.2.1 hc
        refine zr_iconst (pc' := 57) dX5_tell_56 rfl ?_
        exact zr_ireturn dX5_tell_57 rfl rfl trivial (Nat.le_refl _) (Nat.le_refl _) (And.intro rfl h)
      · have h := h.2.2 hc
        refine zr_iload_n (pc' := 35) (i := 2) dX5_tell_34 rfl rfl rfl ?_
        refine zn_callSN (pc' := 38) (args := [.inl l2]) (st := []) (st' := fun r18 => [.inl r18]) dX5_tell_35 rfl cs_X5_52 ⟨rfl, rfl, by decide, by decide⟩ rfl rfl rfl (Nat.le_of_ble_eq_true rfl) (fun _ => rfl) h ?_
        intro r18 M19 h
        refine zr_if_eq (tgt := 56) (pc' := 41) dX5_tell_38 rfl rfl h.1 (fun hc => ?_) (fun hc => ?_)
        · have h := h.2.1 hc
          refine zr_iconst (pc' := 57) dX5_tell_56 rfl ?_
          exact zr_ireturn dX5_tell_57 rfl rfl trivial (Nat.le_refl _) (Nat.le_refl _) (And.intro rfl h)
        · have h := h.2.2 hc
          refine zr_iload (pc' := 43) dX5_tell_41 rfl rfl ?_
          refine zr_if_eq (tgt := 56) (pc' := 46) dX5_tell_43 rfl rfl (zRd rfl) (fun _ => ?_) (fun hc => absurd hc (by decide))
          refine zr_iconst (pc' := 57) dX5_tell_56 rfl ?_
          exact zr_ireturn dX5_tell_57 rfl rfl trivial (Nat.le_refl _) (Nat.le_refl _) (And.intro rfl h)
    · have h := h.2.2 hc
      refine zr_iconst (pc' := 20) dX5_tell_19 rfl ?_
      refine zr_goto (pc' := 24) dX5_tell_20 rfl ?_
      refine zr_istore (pc' := 26) (al' := [(6, .inl 1), (0, .inr (.inr 20)), (1, .inl l1), (2, .inl l2), (3, .inl l3), (4, .inl l4), (5, .inl l5)]) dX5_tell_24 rfl (by decide) rfl ?_
      refine zr_aload_n (pc' := 27) (i := 0) dX5_tell_26 rfl rfl rfl ?_
      refine zr_iload_n (pc' := 28) (i := 1) dX5_tell_27 rfl rfl rfl ?_
      refine zn_callV (pc' := 31) (args := [.inl l1]) (st := []) (st' := fun r20 => [.inl r20]) dX5_tell_28 rfl cv_X5_48 ⟨rfl, rfl, by decide, by decide⟩ rfl ps_20 kd_20 rfl rfl (Nat.le_of_ble_eq_true rfl) (fun _ => rfl) h ?_
      intro r20 M21 h
      refine zr_if_eq (tgt := 56) (pc' := 34) dX5_tell_31 rfl rfl h.1 (fun hc => ?_) (fun hc => ?_)
      · have h := h.2.1 hc
        refine zr_iconst (pc' := 57) dX5_tell_56 rfl ?_
        exact zr_ireturn dX5_tell_57 rfl rfl trivial (Nat.le_refl _) (Nat.le_refl _) (And.intro rfl h)
      · have h := h.2.2 hc
        refine zr_iload_n (pc' := 35) (i := 2) dX5_tell_34 rfl rfl rfl ?_
        refine zn_callSN (pc' := 38) (args := [.inl l2]) (st := []) (st' := fun r22 => [.inl r22]) dX5_tell_35 rfl cs_X5_52 ⟨rfl, rfl, by decide, by decide⟩ rfl rfl rfl (Nat.le_of_ble_eq_true rfl) (fun _ => rfl) h ?_
        intro r22 M23 h
        refine zr_if_eq (tgt := 56) (pc' := 41) dX5_tell_38 rfl rfl h.1 (fun hc => ?_) (fun hc => ?_)
        · have h := h.2.1 hc
          refine zr_iconst (pc' := 57) dX5_tell_56 rfl ?_
          exact zr_ireturn dX5_tell_57 rfl rfl trivial (Nat.le_refl _) (Nat.le_refl _) (And.intro rfl h)
        · have h := h.2.2 hc
          refine zr_iload (pc' := 43) dX5_tell_41 rfl rfl ?_
          refine zr_if_eq (tgt := 56) (pc' := 46) dX5_tell_43 rfl rfl (zRd rfl) (fun hc => absurd hc (by decide)) (fun _ => ?_)
          refine zr_aload_n (pc' := 47) (i := 0) dX5_tell_46 rfl rfl rfl ?_
          refine zr_get (pc' := 50) dX5_tell_47 rfl ps_20 kd_20 fl_X5_55 kc_5 (gv_20_6 _) ?_
          refine zr_sipush (pc' := 53) dX5_tell_50 rfl rfl ?_
          refine zr_icmp_lt (tgt := 58) (pc' := 56) dX5_tell_53 rfl rfl h.1 (zRd rfl) (fun hc => ?_) (fun hc => ?_)
          · have h := h.2.1 hc
            refine zr_iload_n (pc' := 59) (i := 1) dX5_tell_58 rfl rfl rfl ?_
            refine zr_bipush (pc' := 61) dX5_tell_59 rfl rfl ?_
            refine zr_imul (pc' := 62) dX5_tell_61 rfl ?_
            refine zr_iload_n (pc' := 63) (i := 2) dX5_tell_62 rfl rfl rfl ?_
            refine zr_iadd (pc' := 64) dX5_tell_63 rfl ?_
            refine zr_istore (pc' := 66) (al' := [(7, .inl ((l1 * 100) + l2)), (6, .inl 1), (0, .inr (.inr 20)), (1, .inl l1), (2, .inl l2), (3, .inl l3), (4, .inl l4), (5, .inl l5)]) dX5_tell_64 rfl (by decide) rfl ?_
            refine zr_aload_n (pc' := 67) (i := 0) dX5_tell_66 rfl rfl rfl ?_
            refine zr_get (pc' := 70) dX5_tell_67 rfl ps_20 kd_20 fl_X5_21 kc_5 (gv_20_4 _) ?_
            refine zr_aload_n (pc' := 71) (i := 0) dX5_tell_70 rfl rfl rfl ?_
            refine zr_get (pc' := 74) dX5_tell_71 rfl ps_20 kd_20 fl_X5_55 kc_5 (gv_20_6 _) ?_
            refine zr_iload_n (pc' := 75) (i := 3) dX5_tell_74 rfl rfl rfl ?_
            refine zr_iast (pc' := 76) dX5_tell_75 rfl ps_24 kd_24 (by decide) h.1.1 h.1.2 (fun M24 hM1 => ?_)
            have h := h.2 M24 hM1
            refine zr_aload_n (pc' := 77) (i := 0) dX5_tell_76 rfl rfl rfl ?_
            refine zr_get (pc' := 80) dX5_tell_77 rfl ps_20 kd_20 fl_X5_24 kc_5 (gv_20_5 _) ?_
            refine zr_aload_n (pc' := 81) (i := 0) dX5_tell_80 rfl rfl rfl ?_
            refine zr_get (pc' := 84) dX5_tell_81 rfl ps_20 kd_20 fl_X5_55 kc_5 (gv_20_6 _) ?_
            refine zr_iload (pc' := 86) dX5_tell_84 rfl rfl ?_
            refine zr_if_eq (tgt := 95) (pc' := 89) dX5_tell_86 rfl rfl h.1 (fun hc => ?_) (fun hc => ?_)
            · have h := h.2.1 hc
              refine zr_iload (pc' := 97) dX5_tell_95 rfl rfl ?_
              refine zr_iast (pc' := 98) dX5_tell_97 rfl ps_25 kd_25 (by decide) h.1.1 h.1.2 (fun M25 hM1 => ?_)
              have h := h.2 M25 hM1
              refine zr_aload_n (pc' := 99) (i := 0) dX5_tell_98 rfl rfl rfl ?_
              refine zr_get (pc' := 102) dX5_tell_99 rfl ps_20 kd_20 fl_X5_18 kc_5 (gv_20_3 _) ?_
              refine zr_aload_n (pc' := 103) (i := 0) dX5_tell_102 rfl rfl rfl ?_
              refine zr_get (pc' := 106) dX5_tell_103 rfl ps_20 kd_20 fl_X5_55 kc_5 (gv_20_6 _) ?_
              refine zr_aload_n (pc' := 107) (i := 0) dX5_tell_106 rfl rfl rfl ?_
              refine zr_get (pc' := 110) dX5_tell_107 rfl ps_20 kd_20 fl_X5_15 kc_5 (gv_20_2 _) ?_
              refine zr_iload (pc' := 112) dX5_tell_110 rfl rfl ?_
              refine zr_iald (pc' := 113) dX5_tell_112 rfl ps_22 kd_22 (by decide) h.1.1 h.1.2 ?_
              have h := h.2
              refine zr_iast (pc' := 114) dX5_tell_113 rfl ps_23 kd_23 (by decide) h.1.1 h.1.2 (fun M26 hM1 => ?_)
              have h := h.2 M26 hM1
              refine zr_aload_n (pc' := 115) (i := 0) dX5_tell_114 rfl rfl rfl ?_
              refine zr_get (pc' := 118) dX5_tell_115 rfl ps_20 kd_20 fl_X5_15 kc_5 (gv_20_2 _) ?_
              refine zr_iload (pc' := 120) dX5_tell_118 rfl rfl ?_
              refine zr_aload_n (pc' := 121) (i := 0) dX5_tell_120 rfl rfl rfl ?_
              refine zr_get (pc' := 124) dX5_tell_121 rfl ps_20 kd_20 fl_X5_55 kc_5 (gv_20_6 _) ?_
              refine zr_iast (pc' := 125) dX5_tell_124 rfl ps_22 kd_22 (by decide) h.1.1 h.1.2 (fun M27 hM1 => ?_)
              have h := h.2 M27 hM1
              refine zr_aload_n (pc' := 126) (i := 0) dX5_tell_125 rfl rfl rfl ?_
              refine zr_dup (pc' := 127) dX5_tell_126 rfl rfl ?_
              refine zr_get (pc' := 130) dX5_tell_127 rfl ps_20 kd_20 fl_X5_55 kc_5 (gv_20_6 _) ?_
              refine zr_iconst (pc' := 131) dX5_tell_130 rfl ?_
              refine zr_iadd (pc' := 132) dX5_tell_131 rfl ?_
              refine zr_put (pc' := 135) dX5_tell_132 rfl ps_20 kd_20 fl_X5_55 kc_5 rfl nf_20_6 rfl trivial (fun M28 hM1 => ?_)
              have h := h M28 hM1
              refine zr_aload_n (pc' := 136) (i := 0) dX5_tell_135 rfl rfl rfl ?_
              refine zr_get (pc' := 139) dX5_tell_136 rfl ps_20 kd_20 fl_X5_55 kc_5 (gv_20_6 _) ?_
              exact zr_ireturn dX5_tell_139 rfl rfl trivial (Nat.le_refl _) (Nat.le_refl _) (And.intro rfl h)
            · have h := h.2.2 hc
              refine zr_sipush (pc' := 92) dX5_tell_89 rfl rfl ?_
              refine zr_goto (pc' := 97) dX5_tell_92 rfl ?_
              refine zr_iast (pc' := 98) dX5_tell_97 rfl ps_25 kd_25 (by decide) h.1.1 h.1.2 (fun M29 hM1 => ?_)
              have h := h.2 M29 hM1
              refine zr_aload_n (pc' := 99) (i := 0) dX5_tell_98 rfl rfl rfl ?_
              refine zr_get (pc' := 102) dX5_tell_99 rfl ps_20 kd_20 fl_X5_18 kc_5 (gv_20_3 _) ?_
              refine zr_aload_n (pc' := 103) (i := 0) dX5_tell_102 rfl rfl rfl ?_
              refine zr_get (pc' := 106) dX5_tell_103 rfl ps_20 kd_20 fl_X5_55 kc_5 (gv_20_6 _) ?_
              refine zr_aload_n (pc' := 107) (i := 0) dX5_tell_106 rfl rfl rfl ?_
              refine zr_get (pc' := 110) dX5_tell_107 rfl ps_20 kd_20 fl_X5_15 kc_5 (gv_20_2 _) ?_
              refine zr_iload (pc' := 112) dX5_tell_110 rfl rfl ?_
              refine zr_iald (pc' := 113) dX5_tell_112 rfl ps_22 kd_22 (by decide) h.1.1 h.1.2 ?_
              have h := h.2
              refine zr_iast (pc' := 114) dX5_tell_113 rfl ps_23 kd_23 (by decide) h.1.1 h.1.2 (fun M30 hM1 => ?_)
              have h := h.2 M30 hM1
              refine zr_aload_n (pc' := 115) (i := 0) dX5_tell_114 rfl rfl rfl ?_
              refine zr_get (pc' := 118) dX5_tell_115 rfl ps_20 kd_20 fl_X5_15 kc_5 (gv_20_2 _) ?_
              refine zr_iload (pc' := 120) dX5_tell_118 rfl rfl ?_
              refine zr_aload_n (pc' := 121) (i := 0) dX5_tell_120 rfl rfl rfl ?_
              refine zr_get (pc' := 124) dX5_tell_121 rfl ps_20 kd_20 fl_X5_55 kc_5 (gv_20_6 _) ?_
              refine zr_iast (pc' := 125) dX5_tell_124 rfl ps_22 kd_22 (by decide) h.1.1 h.1.2 (fun M31 hM1 => ?_)
              have h := h.2 M31 hM1
              refine zr_aload_n (pc' := 126) (i := 0) dX5_tell_125 rfl rfl rfl ?_
              refine zr_dup (pc' := 127) dX5_tell_126 rfl rfl ?_
              refine zr_get (pc' := 130) dX5_tell_127 rfl ps_20 kd_20 fl_X5_55 kc_5 (gv_20_6 _) ?_
              refine zr_iconst (pc' := 131) dX5_tell_130 rfl ?_
              refine zr_iadd (pc' := 132) dX5_tell_131 rfl ?_
              refine zr_put (pc' := 135) dX5_tell_132 rfl ps_20 kd_20 fl_X5_55 kc_5 rfl nf_20_6 rfl trivial (fun M32 hM1 => ?_)
              have h := h M32 hM1
              refine zr_aload_n (pc' := 136) (i := 0) dX5_tell_135 rfl rfl rfl ?_
              refine zr_get (pc' := 139) dX5_tell_136 rfl ps_20 kd_20 fl_X5_55 kc_5 (gv_20_6 _) ?_
              exact zr_ireturn dX5_tell_139 rfl rfl trivial (Nat.le_refl _) (Nat.le_refl _) (And.intro rfl h)
          · have h := h.2.2 hc
            refine zr_iconst (pc' := 57) dX5_tell_56 rfl ?_
            exact zr_ireturn dX5_tell_57 rfl rfl trivial (Nat.le_refl _) (Nat.le_refl _) (And.intro rfl h)
set_option maxRecDepth 20000 in
theorem vcX5_known {E : zE} {M : zM} {Q : Int → zM → Prop} (l1 l2 l3 : Int) (I16 : Nat → Int → Int → Int → zM → Prop)
    (h : (0 ≤ (l1 * 100) + l2 ∧ (l1 * 100) + l2 < 800) ∧ ∃ n', I16 n' l3 (M 22 (((l1 * 100) + l2).toNat)) 0 M)
    (h16 : ∀ (n : Nat) (l3 l4 l5 : Int) (M : zM), I16 n l3 l4 l5 M → ((zR l5 ∧ zR (M 20 6)) ∧ (((M 20 6) ≤ l5 → Q (-10000) M) ∧ (l5 < (M 20 6) → ((zR l4) ∧ ((l4 = (-1) → Q (-10000) M) ∧ (¬ l4 = (-1) → (0 ≤ l4 ∧ l4 < 400) ∧ ((zR (M 24 l4.toNat) ∧ zR l3) ∧ ((l3 < (M 24 l4.toNat) → (0 ≤ l4 ∧ l4 < 400) ∧ ∃ n', n' < n ∧ I16 n' l3 (M 23 l4.toNat) (l5 + 1) M) ∧ ((M 24 l4.toNat) ≤ l3 → (0 ≤ l4 ∧ l4 < 400) ∧ Q (M 25 l4.toNat) M))))))))))
    : zP E mX5_known [.inr (.inr 20), .inl l1, .inl l2, .inl l3] M Q := by
  have key : ∀ n : Nat, (∀ (l3 l4 l5 : Int) (M : zM), I16 n l3 l4 l5 M → zA E zNN (0, 0) mX5_known 16 [(0, .inr (.inr 20)), (3, .inl l3), (4, .inl l4), (5, .inl l5)] [] M (zQ Q)) := by
    intro n
    induction n using Nat.strongRecOn with
    | ind n ih =>
      intro l3 l4 l5 M h
      have h := h16 n l3 l4 l5 M h
      refine zr_iload (pc' := 18) dX5_known_16 rfl rfl ?_
      refine zr_aload_n (pc' := 19) (i := 0) dX5_known_18 rfl rfl rfl ?_
      refine zr_get (pc' := 22) dX5_known_19 rfl ps_20 kd_20 fl_X5_55 kc_5 (gv_20_6 _) ?_
      refine zr_icmp_ge (tgt := 65) (pc' := 25) dX5_known_22 rfl rfl h.1.1 h.1.2 (fun hc => ?_) (fun hc => ?_)
      · have h := h.2.1 hc
        refine zr_sipush (pc' := 68) dX5_known_65 rfl rfl ?_
        exact zr_ireturn dX5_known_68 rfl rfl trivial (Nat.le_refl _) (Nat.le_refl _) (And.intro rfl h)
      · have h := h.2.2 hc
        refine zr_iload (pc' := 27) dX5_known_25 rfl rfl ?_
        refine zr_iconst (pc' := 28) dX5_known_27 rfl ?_
        refine zr_icmp_eq (tgt := 65) (pc' := 31) dX5_known_28 rfl rfl h.1 (zRd rfl) (fun hc => ?_) (fun hc => ?_)
        · have h := h.2.1 hc
          refine zr_sipush (pc' := 68) dX5_known_65 rfl rfl ?_
          exact zr_ireturn dX5_known_68 rfl rfl trivial (Nat.le_refl _) (Nat.le_refl _) (And.intro rfl h)
        · have h := h.2.2 hc
          refine zr_aload_n (pc' := 32) (i := 0) dX5_known_31 rfl rfl rfl ?_
          refine zr_get (pc' := 35) dX5_known_32 rfl ps_20 kd_20 fl_X5_21 kc_5 (gv_20_4 _) ?_
          refine zr_iload (pc' := 37) dX5_known_35 rfl rfl ?_
          refine zr_iald (pc' := 38) dX5_known_37 rfl ps_24 kd_24 (by decide) h.1.1 h.1.2 ?_
          have h := h.2
          refine zr_iload_n (pc' := 39) (i := 3) dX5_known_38 rfl rfl rfl ?_
          refine zr_icmp_gt (tgt := 50) (pc' := 42) dX5_known_39 rfl rfl h.1.1 h.1.2 (fun hc => ?_) (fun hc => ?_)
          · have h := h.2.1 hc
            refine zr_aload_n (pc' := 51) (i := 0) dX5_known_50 rfl rfl rfl ?_
            refine zr_get (pc' := 54) dX5_known_51 rfl ps_20 kd_20 fl_X5_18 kc_5 (gv_20_3 _) ?_
            refine zr_iload (pc' := 56) dX5_known_54 rfl rfl ?_
            refine zr_iald (pc' := 57) dX5_known_56 rfl ps_23 kd_23 (by decide) h.1.1 h.1.2 ?_
            have h := h.2
            refine zr_istore (pc' := 59) (al' := [(4, .inl (M 23 l4.toNat)), (0, .inr (.inr 20)), (3, .inl l3), (5, .inl l5)]) dX5_known_57 rfl (by decide) rfl ?_
            refine zr_iinc (pc' := 62) (al' := [(5, .inl (l5 + 1)), (4, .inl (M 23 l4.toNat)), (0, .inr (.inr 20)), (3, .inl l3)]) dX5_known_59 rfl rfl (by decide) rfl ?_
            refine zr_goto (pc' := 16) dX5_known_62 rfl ?_
            obtain ⟨n', hn, h⟩ := h
            exact zn_al ((ih n' hn) _ _ _ _ h) ⟨rfl, rfl, rfl, rfl, trivial⟩
          · have h := h.2.2 hc
            refine zr_aload_n (pc' := 43) (i := 0) dX5_known_42 rfl rfl rfl ?_
            refine zr_get (pc' := 46) dX5_known_43 rfl ps_20 kd_20 fl_X5_24 kc_5 (gv_20_5 _) ?_
            refine zr_iload (pc' := 48) dX5_known_46 rfl rfl ?_
            refine zr_iald (pc' := 49) dX5_known_48 rfl ps_25 kd_25 (by decide) h.1.1 h.1.2 ?_
            have h := h.2
            exact zr_ireturn dX5_known_49 rfl rfl trivial (Nat.le_refl _) (Nat.le_refl _) (And.intro rfl h)
  refine zP_of (by decide +kernel) rfl (Nat.le_of_ble_eq_true rfl) ?_
  show zA E zNN (0, 0) mX5_known 0 [(0, .inr (.inr 20)), (1, .inl l1), (2, .inl l2), (3, .inl l3)] [] M (zQ Q)
  refine zr_aload_n (pc' := 1) (i := 0) dX5_known_0 rfl rfl rfl ?_
  refine zr_get (pc' := 4) dX5_known_1 rfl ps_20 kd_20 fl_X5_15 kc_5 (gv_20_2 _) ?_
  refine zr_iload_n (pc' := 5) (i := 1) dX5_known_4 rfl rfl rfl ?_
  refine zr_bipush (pc' := 7) dX5_known_5 rfl rfl ?_
  refine zr_imul (pc' := 8) dX5_known_7 rfl ?_
  refine zr_iload_n (pc' := 9) (i := 2) dX5_known_8 rfl rfl rfl ?_
  refine zr_iadd (pc' := 10) dX5_known_9 rfl ?_
  refine zr_iald (pc' := 11) dX5_known_10 rfl ps_22 kd_22 (by decide) h.1.1 h.1.2 ?_
  have h := h.2
  refine zr_istore (pc' := 13) (al' := [(4, .inl (M 22 (((l1 * 100) + l2).toNat))), (0, .inr (.inr 20)), (1, .inl l1), (2, .inl l2), (3, .inl l3)]) dX5_known_11 rfl (by decide) rfl ?_
  refine zr_iconst (pc' := 14) dX5_known_13 rfl ?_
  refine zr_istore (pc' := 16) (al' := [(5, .inl 0), (4, .inl (M 22 (((l1 * 100) + l2).toNat))), (0, .inr (.inr 20)), (1, .inl l1), (2, .inl l2), (3, .inl l3)]) dX5_known_14 rfl (by decide) rfl ?_
  obtain ⟨n', h⟩ := h
  exact zn_al ((key n') _ _ _ _ h) ⟨rfl, rfl, rfl, rfl, trivial⟩
set_option maxRecDepth 20000 in
theorem vcX5_overWindow {E : zE} {M : zM} {Q : Int → zM → Prop} (l1 l2 l3 l4 l5 : Int) (I22 : Nat → Int → Int → Int → Int → Int → Int → zM → Prop) (I46 : Nat → Int → Int → Int → Int → Int → Int → Int → zM → Prop)
    (h : (zP E mX8_clear [.inr (.inr 26)] M (fun r1 M2 => (zR ((l4 - l3) + 1)) ∧ ∃ n', I22 n' l1 l2 l4 l5 (if 0 < ((l4 - l3) + 1) then ((l4 - l3) + 1) else 0) 0 M2)))
    (h22 : ∀ (n : Nat) (l1 l2 l4 l5 l6 l7 : Int) (M : zM), I22 n l1 l2 l4 l5 l6 l7 M → ((zR l7 ∧ zR (M 20 1)) ∧ (((M 20 1) ≤ l7 → (zP E mX8_part [.inr (.inr 26), .inl l1] M (fun r3 M4 => Q r3 M4))) ∧ (l7 < (M 20 1) → (0 ≤ l7 ∧ l7 < 8) ∧ ((zR (M 21 l7.toNat) ∧ zR l2) ∧ ((¬ (M 21 l7.toNat) = l2 → ∃ n', n' < n ∧ I22 n' l1 l2 l4 l5 l6 (l7 + 1) M) ∧ ((M 21 l7.toNat) = l2 → ∃ n', n' < n ∧ I46 n' l1 l2 l4 l5 l6 l7 l6 M)))))))
    (h46 : ∀ (n : Nat) (l1 l2 l4 l5 l6 l7 l8 : Int) (M : zM), I46 n l1 l2 l4 l5 l6 l7 l8 M → ((zR l8 ∧ zR l4) ∧ ((l4 < l8 → ∃ n', n' < n ∧ I22 n' l1 l2 l4 l5 l6 (l7 + 1) M) ∧ (l8 ≤ l4 → (zP E mX5_known [.inr (.inr 20), .inl l7, .inl l8, .inl l5] M (fun r5 M6 => (zP E mX8_add [.inr (.inr 26), .inl l8, .inl r5] M6 (fun r7 M8 => ∃ n', n' < n ∧ I46 n' l1 l2 l4 l5 l6 l7 (l8 + 1) M8))))))))
    : zP E mX5_overWindow [.inr (.inr 20), .inl l1, .inl l2, .inl l3, .inl l4, .inl l5] M Q := by
  have key : ∀ n : Nat, (∀ (l1 l2 l4 l5 l6 l7 : Int) (M : zM), I22 n l1 l2 l4 l5 l6 l7 M → zA E zNN (0, 0) mX5_overWindow 22 [(0, .inr (.inr 20)), (1, .inl l1), (2, .inl l2), (4, .inl l4), (5, .inl l5), (6, .inl l6), (7, .inl l7)] [] M (zQ Q)) ∧ (∀ (l1 l2 l4 l5 l6 l7 l8 : Int) (M : zM), I46 n l1 l2 l4 l5 l6 l7 l8 M → zA E zNN (0, 0) mX5_overWindow 46 [(0, .inr (.inr 20)), (1, .inl l1), (2, .inl l2), (4, .inl l4), (5, .inl l5), (6, .inl l6), (7, .inl l7), (8, .inl l8)] [] M (zQ Q)) := by
    intro n
    induction n using Nat.strongRecOn with
    | ind n ih =>
      refine ⟨?_, ?_⟩
      · intro l1 l2 l4 l5 l6 l7 M h
        have h := h22 n l1 l2 l4 l5 l6 l7 M h
        refine zr_iload (pc' := 24) dX5_overWindow_22 rfl rfl ?_
        refine zr_aload_n (pc' := 25) (i := 0) dX5_overWindow_24 rfl rfl rfl ?_
        refine zr_get (pc' := 28) dX5_overWindow_25 rfl ps_20 kd_20 fl_X5_40 kc_5 (gv_20_1 _) ?_
        refine zr_icmp_ge (tgt := 84) (pc' := 31) dX5_overWindow_28 rfl rfl h.1.1 h.1.2 (fun hc => ?_) (fun hc => ?_)
        · have h := h.2.1 hc
          refine zr_aload_n (pc' := 85) (i := 0) dX5_overWindow_84 rfl rfl rfl ?_
          refine zr_get (pc' := 88) dX5_overWindow_85 rfl ps_20 kd_20 fl_X5_30 kc_5 (gv_20_7 _) ?_
          refine zr_iload_n (pc' := 89) (i := 1) dX5_overWindow_88 rfl rfl rfl ?_
          refine zn_callV (pc' := 92) (args := [.inl l1]) (st := []) (st' := fun r3 => [.inr (.inl r3)]) dX5_overWindow_89 rfl cv_X5_75 ⟨rfl, rfl, by decide, by decide⟩ rfl ps_26 kd_26 rfl rfl (Nat.le_of_ble_eq_true rfl) (fun _ => rfl) h ?_
          intro r3 M4 h
          exact zr_lreturn dX5_overWindow_92 rfl (Nat.le_refl _) (Nat.le_refl _) (And.intro rfl h)
        · have h := h.2.2 hc
          refine zr_aload_n (pc' := 32) (i := 0) dX5_overWindow_31 rfl rfl rfl ?_
          refine zr_get (pc' := 35) dX5_overWindow_32 rfl ps_20 kd_20 fl_X5_11 kc_5 (gv_20_0 _) ?_
          refine zr_iload (pc' := 37) dX5_overWindow_35 rfl rfl ?_
          refine zr_iald (pc' := 38) dX5_overWindow_37 rfl ps_21 kd_21 (by decide) h.1.1 h.1.2 ?_
          have h := h.2
          refine zr_iload_n (pc' := 39) (i := 2) dX5_overWindow_38 rfl rfl rfl ?_
          refine zr_icmp_ne (tgt := 78) (pc' := 42) dX5_overWindow_39 rfl rfl h.1.1 h.1.2 (fun hc => ?_) (fun hc => ?_)
          · have h := h.2.1 hc
            refine zr_iinc (pc' := 81) (al' := [(7, .inl (l7 + 1)), (0, .inr (.inr 20)), (1, .inl l1), (2, .inl l2), (4, .inl l4), (5, .inl l5), (6, .inl l6)]) dX5_overWindow_78 rfl rfl (by decide) rfl ?_
            refine zr_goto (pc' := 22) dX5_overWindow_81 rfl ?_
            obtain ⟨n', hn, h⟩ := h
            exact zn_al ((ih n' hn).1 _ _ _ _ _ _ _ h) ⟨rfl, rfl, rfl, rfl, rfl, rfl, rfl, trivial⟩
          · have h := h.2.2 hc
            refine zr_iload (pc' := 44) dX5_overWindow_42 rfl rfl ?_
            refine zr_istore (pc' := 46) (al' := [(8, .inl l6), (0, .inr (.inr 20)), (1, .inl l1), (2, .inl l2), (4, .inl l4), (5, .inl l5), (6, .inl l6), (7, .inl l7)]) dX5_overWindow_44 rfl (by decide) rfl ?_
            obtain ⟨n', hn, h⟩ := h
            exact zn_al ((ih n' hn).2 _ _ _ _ _ _ _ _ h) ⟨rfl, rfl, rfl, rfl, rfl, rfl, rfl, rfl, trivial⟩
      · intro l1 l2 l4 l5 l6 l7 l8 M h
        have h := h46 n l1 l2 l4 l5 l6 l7 l8 M h
        refine zr_iload (pc' := 48) dX5_overWindow_46 rfl rfl ?_
        refine zr_iload (pc' := 50) dX5_overWindow_48 rfl rfl ?_
        refine zr_icmp_gt (tgt := 78) (pc' := 53) dX5_overWindow_50 rfl rfl h.1.1 h.1.2 (fun hc => ?_) (fun hc => ?_)
        · have h := h.2.1 hc
          refine zr_iinc (pc' := 81) (al' := [(7, .inl (l7 + 1)), (0, .inr (.inr 20)), (1, .inl l1), (2, .inl l2), (4, .inl l4), (5, .inl l5), (6, .inl l6), (8, .inl l8)]) dX5_overWindow_78 rfl rfl (by decide) rfl ?_
          refine zr_goto (pc' := 22) dX5_overWindow_81 rfl ?_
          obtain ⟨n', hn, h⟩ := h
          exact zn_al ((ih n' hn).1 _ _ _ _ _ _ _ h) ⟨rfl, rfl, rfl, rfl, rfl, rfl, rfl, trivial⟩
        · have h := h.2.2 hc
          refine zr_aload_n (pc' := 54) (i := 0) dX5_overWindow_53 rfl rfl rfl ?_
          refine zr_get (pc' := 57) dX5_overWindow_54 rfl ps_20 kd_20 fl_X5_30 kc_5 (gv_20_7 _) ?_
          refine zr_iload (pc' := 59) dX5_overWindow_57 rfl rfl ?_
          refine zr_aload_n (pc' := 60) (i := 0) dX5_overWindow_59 rfl rfl rfl ?_
          refine zr_iload (pc' := 62) dX5_overWindow_60 rfl rfl ?_
          refine zr_iload (pc' := 64) dX5_overWindow_62 rfl rfl ?_
          refine zr_iload (pc' := 66) dX5_overWindow_64 rfl rfl ?_
          refine zn_callV (pc' := 69) (args := [.inl l7, .inl l8, .inl l5]) (st := [.inl l8, .inr (.inr 26)]) (st' := fun r5 => [.inl r5, .inl l8, .inr (.inr 26)]) dX5_overWindow_66 rfl cv_X5_67 ⟨rfl, rfl, by decide, by decide⟩ rfl ps_20 kd_20 rfl rfl (Nat.le_of_ble_eq_true rfl) (fun _ => rfl) h ?_
          intro r5 M6 h
          refine zn_callV (pc' := 72) (args := [.inl l8, .inl r5]) (st := []) (st' := fun _ => []) dX5_overWindow_69 rfl cv_X5_71 ⟨rfl, rfl, by decide, by decide⟩ rfl ps_26 kd_26 rfl rfl (Nat.le_of_ble_eq_true rfl) (fun _ => rfl) h ?_
          intro r7 M8 h
          refine zr_iinc (pc' := 75) (al' := [(8, .inl (l8 + 1)), (0, .inr (.inr 20)), (1, .inl l1), (2, .inl l2), (4, .inl l4), (5, .inl l5), (6, .inl l6), (7, .inl l7)]) dX5_overWindow_72 rfl rfl (by decide) rfl ?_
          refine zr_goto (pc' := 46) dX5_overWindow_75 rfl ?_
          obtain ⟨n', hn, h⟩ := h
          exact zn_al ((ih n' hn).2 _ _ _ _ _ _ _ _ h) ⟨rfl, rfl, rfl, rfl, rfl, rfl, rfl, rfl, trivial⟩
  refine zP_of (by decide +kernel) rfl (Nat.le_of_ble_eq_true rfl) ?_
  show zA E zNN (0, 0) mX5_overWindow 0 [(0, .inr (.inr 20)), (1, .inl l1), (2, .inl l2), (3, .inl l3), (4, .inl l4), (5, .inl l5)] [] M (zQ Q)
  refine zr_aload_n (pc' := 1) (i := 0) dX5_overWindow_0 rfl rfl rfl ?_
  refine zr_get (pc' := 4) dX5_overWindow_1 rfl ps_20 kd_20 fl_X5_30 kc_5 (gv_20_7 _) ?_
  refine zn_callV (pc' := 7) (args := []) (st := []) (st' := fun _ => []) dX5_overWindow_4 rfl cv_X5_58 ⟨rfl, rfl, by decide, by decide⟩ rfl ps_26 kd_26 rfl rfl (Nat.le_of_ble_eq_true rfl) (fun _ => rfl) h ?_
  intro r1 M2 h
  refine zr_iconst (pc' := 8) dX5_overWindow_7 rfl ?_
  refine zr_iload (pc' := 10) dX5_overWindow_8 rfl rfl ?_
  refine zr_iload_n (pc' := 11) (i := 3) dX5_overWindow_10 rfl rfl rfl ?_
  refine zr_isub (pc' := 12) dX5_overWindow_11 rfl ?_
  refine zr_iconst (pc' := 13) dX5_overWindow_12 rfl ?_
  refine zr_iadd (pc' := 14) dX5_overWindow_13 rfl ?_
  refine zr_max (pc' := 17) dX5_overWindow_14 rfl ml_X5_61.1 ml_X5_61.2.1 ml_X5_61.2.2.1 ml_X5_61.2.2.2 (by decide) (Nat.le_of_ble_eq_true rfl) (Nat.zero_le _) (Nat.zero_le _) (zRd rfl) h.1 ?_
  have h := h.2
  refine zr_istore (pc' := 19) (al' := [(6, .inl (if 0 < ((l4 - l3) + 1) then ((l4 - l3) + 1) else 0)), (0, .inr (.inr 20)), (1, .inl l1), (2, .inl l2), (3, .inl l3), (4, .inl l4), (5, .inl l5)]) dX5_overWindow_17 rfl (by decide) rfl ?_
  refine zr_iconst (pc' := 20) dX5_overWindow_19 rfl ?_
  refine zr_istore (pc' := 22) (al' := [(7, .inl 0), (6, .inl (if 0 < ((l4 - l3) + 1) then ((l4 - l3) + 1) else 0)), (0, .inr (.inr 20)), (1, .inl l1), (2, .inl l2), (3, .inl l3), (4, .inl l4), (5, .inl l5)]) dX5_overWindow_20 rfl (by decide) rfl ?_
  obtain ⟨n', h⟩ := h
  exact zn_al ((key n').1 _ _ _ _ _ _ _ h) ⟨rfl, rfl, rfl, rfl, rfl, rfl, rfl, trivial⟩
set_option maxRecDepth 20000 in
theorem vcX6_clear {E : zE} {M : zM} {Q : Int → zM → Prop} (l0 : Int) (hi0 : zIs_6 l0)
    (h : (∀ M1, M1 = zup M l0.toNat 7 0 → (∀ M2, M2 = zup M1 l0.toNat 8 0 → (∀ M3, M3 = zup M2 l0.toNat 9 0 → (∀ M4, M4 = zup M3 l0.toNat 10 0 → (∀ M5, M5 = zup M4 l0.toNat 11 0 → Q 0 M5))))))
    : zP E mX6_clear [.inr (.inr l0)] M Q := by
  refine zP_of (by decide +kernel) rfl (Nat.le_of_ble_eq_true rfl) ?_
  show zA E zNN (0, 0) mX6_clear 0 [(0, .inr (.inr l0))] [] M (zQ Q)
  refine zr_aload_n (pc' := 1) (i := 0) dX6_clear_0 rfl rfl rfl ?_
  refine zr_iconst (pc' := 2) dX6_clear_1 rfl ?_
  refine zr_put (pc' := 5) dX6_clear_2 rfl (is_6_pos hi0) (is_6_kd hi0) fl_X6_31 kc_6 rfl (is_6_nf_7 hi0) rfl trivial (fun M1 hM1 => ?_)
  have h := h M1 hM1
  refine zr_aload_n (pc' := 6) (i := 0) dX6_clear_5 rfl rfl rfl ?_
  refine zr_iconst (pc' := 7) dX6_clear_6 rfl ?_
  refine zr_put (pc' := 10) dX6_clear_7 rfl (is_6_pos hi0) (is_6_kd hi0) fl_X6_35 kc_6 rfl (is_6_nf_8 hi0) rfl trivial (fun M2 hM1 => ?_)
  have h := h M2 hM1
  refine zr_aload_n (pc' := 11) (i := 0) dX6_clear_10 rfl rfl rfl ?_
  refine zr_iconst (pc' := 12) dX6_clear_11 rfl ?_
  refine zr_put (pc' := 15) dX6_clear_12 rfl (is_6_pos hi0) (is_6_kd hi0) fl_X6_38 kc_6 rfl (is_6_nf_9 hi0) rfl trivial (fun M3 hM1 => ?_)
  have h := h M3 hM1
  refine zr_aload_n (pc' := 16) (i := 0) dX6_clear_15 rfl rfl rfl ?_
  refine zr_iconst (pc' := 17) dX6_clear_16 rfl ?_
  refine zr_put (pc' := 20) dX6_clear_17 rfl (is_6_pos hi0) (is_6_kd hi0) fl_X6_41 kc_6 rfl (is_6_nf_10 hi0) rfl trivial (fun M4 hM1 => ?_)
  have h := h M4 hM1
  refine zr_aload_n (pc' := 21) (i := 0) dX6_clear_20 rfl rfl rfl ?_
  refine zr_iconst (pc' := 22) dX6_clear_21 rfl ?_
  refine zr_put (pc' := 25) dX6_clear_22 rfl (is_6_pos hi0) (is_6_kd hi0) fl_X6_44 kc_6 rfl (is_6_nf_11 hi0) rfl (Or.inl rfl) (fun M5 hM1 => ?_)
  have h := h M5 hM1
  exact zr_return (x := 0) dX6_clear_25 rfl (Nat.le_refl _) (Nat.le_refl _) (And.intro rfl h)
set_option maxRecDepth 20000 in
theorem vcX6_write {E : zE} {M : zM} {Q : Int → zM → Prop} (l0 l1 l2 l3 : Int) (hi0 : zIs_6 l0)
    (h : ((zR (M l0.toNat 7)) ∧ ((64 ≤ (M l0.toNat 7) → Q 0 M) ∧ ((M l0.toNat 7) < 64 → (0 ≤ M l0.toNat 7 ∧ M l0.toNat 7 < 64) ∧ (∀ M1, M1 = zup M (l0 + 1).toNat ((M l0.toNat 7).toNat) l1 → (0 ≤ M1 l0.toNat 7 ∧ M1 l0.toNat 7 < 64) ∧ (∀ M2, M2 = zup M1 (l0 + 2).toNat ((M1 l0.toNat 7).toNat) l2 → (0 ≤ M2 l0.toNat 7 ∧ M2 l0.toNat 7 < 64) ∧ (∀ M3, M3 = zup M2 (l0 + 3).toNat ((M2 l0.toNat 7).toNat) l3 → (∀ M4, M4 = zup M3 l0.toNat 7 ((M3 l0.toNat 7) + 1) → Q 0 M4))))))))
    : zP E mX6_write [.inr (.inr l0), .inl l1, .inl l2, .inl l3] M Q := by
  refine zP_of (by decide +kernel) rfl (Nat.le_of_ble_eq_true rfl) ?_
  show zA E zNN (0, 0) mX6_write 0 [(0, .inr (.inr l0)), (1, .inl l1), (2, .inl l2), (3, .inl l3)] [] M (zQ Q)
  refine zr_aload_n (pc' := 1) (i := 0) dX6_write_0 rfl rfl rfl ?_
  refine zr_get (pc' := 4) dX6_write_1 rfl (is_6_pos hi0) (is_6_kd hi0) fl_X6_31 kc_6 (is_6_gv_7 hi0 _) ?_
  refine zr_bipush (pc' := 6) dX6_write_4 rfl rfl ?_
  refine zr_icmp_ge (tgt := 49) (pc' := 9) dX6_write_6 rfl rfl h.1 (zRd rfl) (fun hc => ?_) (fun hc => ?_)
  · have h := h.2.1 hc
    exact zr_return (x := 0) dX6_write_49 rfl (Nat.le_refl _) (Nat.le_refl _) (And.intro rfl h)
  · have h := h.2.2 hc
    refine zr_aload_n (pc' := 10) (i := 0) dX6_write_9 rfl rfl rfl ?_
    refine zr_get (pc' := 13) dX6_write_10 rfl (is_6_pos hi0) (is_6_kd hi0) fl_X6_11 kc_6 (is_6_gv_0 hi0 _) ?_
    refine zr_aload_n (pc' := 14) (i := 0) dX6_write_13 rfl rfl rfl ?_
    refine zr_get (pc' := 17) dX6_write_14 rfl (is_6_pos hi0) (is_6_kd hi0) fl_X6_31 kc_6 (is_6_gv_7 hi0 _) ?_
    refine zr_iload_n (pc' := 18) (i := 1) dX6_write_17 rfl rfl rfl ?_
    refine zr_iast (pc' := 19) dX6_write_18 rfl (is_6_kp_0 hi0) (is_6_ka_0 hi0) (by decide) h.1.1 h.1.2 (fun M1 hM1 => ?_)
    have h := h.2 M1 hM1
    refine zr_aload_n (pc' := 20) (i := 0) dX6_write_19 rfl rfl rfl ?_
    refine zr_get (pc' := 23) dX6_write_20 rfl (is_6_pos hi0) (is_6_kd hi0) fl_X6_15 kc_6 (is_6_gv_1 hi0 _) ?_
    refine zr_aload_n (pc' := 24) (i := 0) dX6_write_23 rfl rfl rfl ?_
    refine zr_get (pc' := 27) dX6_write_24 rfl (is_6_pos hi0) (is_6_kd hi0) fl_X6_31 kc_6 (is_6_gv_7 hi0 _) ?_
    refine zr_iload_n (pc' := 28) (i := 2) dX6_write_27 rfl rfl rfl ?_
    refine zr_iast (pc' := 29) dX6_write_28 rfl (is_6_kp_1 hi0) (is_6_ka_1 hi0) (by decide) h.1.1 h.1.2 (fun M2 hM1 => ?_)
    have h := h.2 M2 hM1
    refine zr_aload_n (pc' := 30) (i := 0) dX6_write_29 rfl rfl rfl ?_
    refine zr_get (pc' := 33) dX6_write_30 rfl (is_6_pos hi0) (is_6_kd hi0) fl_X6_18 kc_6 (is_6_gv_2 hi0 _) ?_
    refine zr_aload_n (pc' := 34) (i := 0) dX6_write_33 rfl rfl rfl ?_
    refine zr_get (pc' := 37) dX6_write_34 rfl (is_6_pos hi0) (is_6_kd hi0) fl_X6_31 kc_6 (is_6_gv_7 hi0 _) ?_
    refine zr_iload_n (pc' := 38) (i := 3) dX6_write_37 rfl rfl rfl ?_
    refine zr_iast (pc' := 39) dX6_write_38 rfl (is_6_kp_2 hi0) (is_6_ka_2 hi0) (by decide) h.1.1 h.1.2 (fun M3 hM1 => ?_)
    have h := h.2 M3 hM1
    refine zr_aload_n (pc' := 40) (i := 0) dX6_write_39 rfl rfl rfl ?_
    refine zr_dup (pc' := 41) dX6_write_40 rfl rfl ?_
    refine zr_get (pc' := 44) dX6_write_41 rfl (is_6_pos hi0) (is_6_kd hi0) fl_X6_31 kc_6 (is_6_gv_7 hi0 _) ?_
    refine zr_iconst (pc' := 45) dX6_write_44 rfl ?_
    refine zr_iadd (pc' := 46) dX6_write_45 rfl ?_
    refine zr_put (pc' := 49) dX6_write_46 rfl (is_6_pos hi0) (is_6_kd hi0) fl_X6_31 kc_6 rfl (is_6_nf_7 hi0) rfl trivial (fun M4 hM1 => ?_)
    have h := h M4 hM1
    exact zr_return (x := 0) dX6_write_49 rfl (Nat.le_refl _) (Nat.le_refl _) (And.intro rfl h)
set_option maxRecDepth 20000 in
theorem vcX6_endLine {E : zE} {M : zM} {Q : Int → zM → Prop} (l0 l1 : Int) (hi0 : zIs_6 l0)
    (h : ((zR (M l0.toNat 8)) ∧ ((12 ≤ (M l0.toNat 8) → Q 0 M) ∧ ((M l0.toNat 8) < 12 → (0 ≤ M l0.toNat 8 ∧ M l0.toNat 8 < 12) ∧ (∀ M1, M1 = zup M (l0 + 4).toNat ((M l0.toNat 8).toNat) l1 → (0 ≤ M1 l0.toNat 8 ∧ M1 l0.toNat 8 < 12) ∧ (∀ M2, M2 = zup M1 (l0 + 5).toNat ((M1 l0.toNat 8).toNat) (M1 l0.toNat 7) → (∀ M3, M3 = zup M2 l0.toNat 8 ((M2 l0.toNat 8) + 1) → Q 0 M3)))))))
    : zP E mX6_endLine [.inr (.inr l0), .inl l1] M Q := by
  refine zP_of (by decide +kernel) rfl (Nat.le_of_ble_eq_true rfl) ?_
  show zA E zNN (0, 0) mX6_endLine 0 [(0, .inr (.inr l0)), (1, .inl l1)] [] M (zQ Q)
  refine zr_aload_n (pc' := 1) (i := 0) dX6_endLine_0 rfl rfl rfl ?_
  refine zr_get (pc' := 4) dX6_endLine_1 rfl (is_6_pos hi0) (is_6_kd hi0) fl_X6_35 kc_6 (is_6_gv_8 hi0 _) ?_
  refine zr_bipush (pc' := 6) dX6_endLine_4 rfl rfl ?_
  refine zr_icmp_ge (tgt := 42) (pc' := 9) dX6_endLine_6 rfl rfl h.1 (zRd rfl) (fun hc => ?_) (fun hc => ?_)
  · have h := h.2.1 hc
    exact zr_return (x := 0) dX6_endLine_42 rfl (Nat.le_refl _) (Nat.le_refl _) (And.intro rfl h)
  · have h := h.2.2 hc
    refine zr_aload_n (pc' := 10) (i := 0) dX6_endLine_9 rfl rfl rfl ?_
    refine zr_get (pc' := 13) dX6_endLine_10 rfl (is_6_pos hi0) (is_6_kd hi0) fl_X6_21 kc_6 (is_6_gv_3 hi0 _) ?_
    refine zr_aload_n (pc' := 14) (i := 0) dX6_endLine_13 rfl rfl rfl ?_
    refine zr_get (pc' := 17) dX6_endLine_14 rfl (is_6_pos hi0) (is_6_kd hi0) fl_X6_35 kc_6 (is_6_gv_8 hi0 _) ?_
    refine zr_iload_n (pc' := 18) (i := 1) dX6_endLine_17 rfl rfl rfl ?_
    refine zr_iast (pc' := 19) dX6_endLine_18 rfl (is_6_kp_3 hi0) (is_6_ka_3 hi0) (by decide) h.1.1 h.1.2 (fun M1 hM1 => ?_)
    have h := h.2 M1 hM1
    refine zr_aload_n (pc' := 20) (i := 0) dX6_endLine_19 rfl rfl rfl ?_
    refine zr_get (pc' := 23) dX6_endLine_20 rfl (is_6_pos hi0) (is_6_kd hi0) fl_X6_24 kc_6 (is_6_gv_4 hi0 _) ?_
    refine zr_aload_n (pc' := 24) (i := 0) dX6_endLine_23 rfl rfl rfl ?_
    refine zr_get (pc' := 27) dX6_endLine_24 rfl (is_6_pos hi0) (is_6_kd hi0) fl_X6_35 kc_6 (is_6_gv_8 hi0 _) ?_
    refine zr_aload_n (pc' := 28) (i := 0) dX6_endLine_27 rfl rfl rfl ?_
    refine zr_get (pc' := 31) dX6_endLine_28 rfl (is_6_pos hi0) (is_6_kd hi0) fl_X6_31 kc_6 (is_6_gv_7 hi0 _) ?_
    refine zr_iast (pc' := 32) dX6_endLine_31 rfl (is_6_kp_4 hi0) (is_6_ka_4 hi0) (by decide) h.1.1 h.1.2 (fun M2 hM1 => ?_)
    have h := h.2 M2 hM1
    refine zr_aload_n (pc' := 33) (i := 0) dX6_endLine_32 rfl rfl rfl ?_
    refine zr_dup (pc' := 34) dX6_endLine_33 rfl rfl ?_
    refine zr_get (pc' := 37) dX6_endLine_34 rfl (is_6_pos hi0) (is_6_kd hi0) fl_X6_35 kc_6 (is_6_gv_8 hi0 _) ?_
    refine zr_iconst (pc' := 38) dX6_endLine_37 rfl ?_
    refine zr_iadd (pc' := 39) dX6_endLine_38 rfl ?_
    refine zr_put (pc' := 42) dX6_endLine_39 rfl (is_6_pos hi0) (is_6_kd hi0) fl_X6_35 kc_6 rfl (is_6_nf_8 hi0) rfl trivial (fun M3 hM1 => ?_)
    have h := h M3 hM1
    exact zr_return (x := 0) dX6_endLine_42 rfl (Nat.le_refl _) (Nat.le_refl _) (And.intro rfl h)
set_option maxRecDepth 20000 in
theorem vcX6_greatestLevel {E : zE} {M : zM} {Q : Int → zM → Prop} (l0 l2 l3 : Int) (hi0 : zIs_6 l0) (I6 : Nat → Int → Int → Int → Int → zM → Prop)
    (h : ∃ n', I6 n' l2 l3 0 0 M)
    (h6 : ∀ (n : Nat) (l2 l3 l4 l5 : Int) (M : zM), I6 n l2 l3 l4 l5 M → ((zR l5 ∧ zR (M l0.toNat 8)) ∧ (((M l0.toNat 8) ≤ l5 → Q l4 M) ∧ (l5 < (M l0.toNat 8) → (0 ≤ l5 ∧ l5 < 12) ∧ ((zR (M (l0 + 4).toNat l5.toNat) ∧ zR l4) ∧ (((M (l0 + 4).toNat l5.toNat) ≤ l4 → ∃ n', n' < n ∧ I6 n' l2 l3 l4 (l5 + 1) M) ∧ (l4 < (M (l0 + 4).toNat l5.toNat) → (zP E mX6_value [.inr (.inr l0), .inl l5, .inr (.inr 20), .inl l2, .inl l3] M (fun r1 M2 => ((zL r1) ∧ ((r1 = 0 → ∃ n', n' < n ∧ I6 n' l2 l3 l4 (l5 + 1) M2) ∧ (¬ r1 = 0 → ((zL r1) ∧ ((r1 = (-9223372036854775808) → ∃ n', n' < n ∧ I6 n' l2 l3 l4 (l5 + 1) M2) ∧ (¬ r1 = (-9223372036854775808) → (0 ≤ l5 ∧ l5 < 12) ∧ ∃ n', n' < n ∧ I6 n' l2 l3 (M2 (l0 + 4).toNat l5.toNat) (l5 + 1) M2)))))))))))))))
    : zP E mX6_greatestLevel [.inr (.inr l0), .inr (.inr 20), .inl l2, .inl l3] M Q := by
  have key : ∀ n : Nat, (∀ (l2 l3 l4 l5 : Int) (M : zM), I6 n l2 l3 l4 l5 M → zA E zNN (0, 0) mX6_greatestLevel 6 [(0, .inr (.inr l0)), (1, .inr (.inr 20)), (2, .inl l2), (3, .inl l3), (4, .inl l4), (5, .inl l5)] [] M (zQ Q)) := by
    intro n
    induction n using Nat.strongRecOn with
    | ind n ih =>
      intro l2 l3 l4 l5 M h
      have h := h6 n l2 l3 l4 l5 M h
      refine zr_iload (pc' := 8) dX6_greatestLevel_6 rfl rfl ?_
      refine zr_aload_n (pc' := 9) (i := 0) dX6_greatestLevel_8 rfl rfl rfl ?_
      refine zr_get (pc' := 12) dX6_greatestLevel_9 rfl (is_6_pos hi0) (is_6_kd hi0) fl_X6_35 kc_6 (is_6_gv_8 hi0 _) ?_
      refine zr_icmp_ge (tgt := 69) (pc' := 15) dX6_greatestLevel_12 rfl rfl h.1.1 h.1.2 (fun hc => ?_) (fun hc => ?_)
      · have h := h.2.1 hc
        refine zr_iload (pc' := 71) dX6_greatestLevel_69 rfl rfl ?_
        exact zr_ireturn dX6_greatestLevel_71 rfl rfl trivial (Nat.le_refl _) (Nat.le_refl _) (And.intro rfl h)
      · have h := h.2.2 hc
        refine zr_aload_n (pc' := 16) (i := 0) dX6_greatestLevel_15 rfl rfl rfl ?_
        refine zr_get (pc' := 19) dX6_greatestLevel_16 rfl (is_6_pos hi0) (is_6_kd hi0) fl_X6_21 kc_6 (is_6_gv_3 hi0 _) ?_
        refine zr_iload (pc' := 21) dX6_greatestLevel_19 rfl rfl ?_
        refine zr_iald (pc' := 22) dX6_greatestLevel_21 rfl (is_6_kp_3 hi0) (is_6_ka_3 hi0) (by decide) h.1.1 h.1.2 ?_
        have h := h.2
        refine zr_iload (pc' := 24) dX6_greatestLevel_22 rfl rfl ?_
        refine zr_icmp_le (tgt := 63) (pc' := 27) dX6_greatestLevel_24 rfl rfl h.1.1 h.1.2 (fun hc => ?_) (fun hc => ?_)
        · have h := h.2.1 hc
          refine zr_iinc (pc' := 66) (al' := [(5, .inl (l5 + 1)), (0, .inr (.inr l0)), (1, .inr (.inr 20)), (2, .inl l2), (3, .inl l3), (4, .inl l4)]) dX6_greatestLevel_63 rfl rfl (by decide) rfl ?_
          refine zr_goto (pc' := 6) dX6_greatestLevel_66 rfl ?_
          obtain ⟨n', hn, h⟩ := h
          exact zn_al ((ih n' hn) _ _ _ _ _ h) ⟨rfl, rfl, rfl, rfl, rfl, rfl, trivial⟩
        · have h := h.2.2 hc
          refine zr_aload_n (pc' := 28) (i := 0) dX6_greatestLevel_27 rfl rfl rfl ?_
          refine zr_iload (pc' := 30) dX6_greatestLevel_28 rfl rfl ?_
          refine zr_aload_n (pc' := 31) (i := 1) dX6_greatestLevel_30 rfl rfl rfl ?_
          refine zr_iload_n (pc' := 32) (i := 2) dX6_greatestLevel_31 rfl rfl rfl ?_
          refine zr_iload_n (pc' := 33) (i := 3) dX6_greatestLevel_32 rfl rfl rfl ?_
          refine zn_callV (pc' := 36) (args := [.inl l5, .inr (.inr 20), .inl l2, .inl l3]) (st := []) (st' := fun r1 => [.inr (.inl r1)]) dX6_greatestLevel_33 rfl cv_X6_48 ⟨rfl, rfl, by decide, by decide⟩ rfl (is_6_pos hi0) (is_6_kd hi0) rfl rfl (Nat.le_of_ble_eq_true rfl) (fun _ => rfl) h ?_
          intro r1 M2 h
          refine zr_lstore (pc' := 38) (al' := [(6, .inr (.inl r1)), (0, .inr (.inr l0)), (1, .inr (.inr 20)), (2, .inl l2), (3, .inl l3), (4, .inl l4), (5, .inl l5)]) dX6_greatestLevel_36 rfl (by decide) rfl ?_
          refine zr_lload (pc' := 40) dX6_greatestLevel_38 rfl rfl ?_
          refine zr_lconst (pc' := 41) (x := 0) dX6_greatestLevel_40 rfl rfl ?_
          refine zn_lif_eq (tgt := 63) (pc1 := 42) (pc' := 45) dX6_greatestLevel_41 rfl dX6_greatestLevel_42 rfl rfl h.1 (zLd rfl) (fun hc => ?_) (fun hc => ?_)
          · have h := h.2.1 hc
            refine zr_iinc (pc' := 66) (al' := [(5, .inl (l5 + 1)), (6, .inr (.inl r1)), (0, .inr (.inr l0)), (1, .inr (.inr 20)), (2, .inl l2), (3, .inl l3), (4, .inl l4)]) dX6_greatestLevel_63 rfl rfl (by decide) rfl ?_
            refine zr_goto (pc' := 6) dX6_greatestLevel_66 rfl ?_
            obtain ⟨n', hn, h⟩ := h
            exact zn_al ((ih n' hn) _ _ _ _ _ h) ⟨rfl, rfl, rfl, rfl, rfl, rfl, trivial⟩
          · have h := h.2.2 hc
            refine zr_lload (pc' := 47) dX6_greatestLevel_45 rfl rfl ?_
            refine zr_ldc2 (pc' := 50) (x := -9223372036854775808) dX6_greatestLevel_47 rfl ci_X6_52 ?_
            refine zn_lif_eq (tgt := 63) (pc1 := 51) (pc' := 54) dX6_greatestLevel_50 rfl dX6_greatestLevel_51 rfl rfl h.1 (zLd rfl) (fun hc => ?_) (fun hc => ?_)
            · have h := h.2.1 hc
              refine zr_iinc (pc' := 66) (al' := [(5, .inl (l5 + 1)), (6, .inr (.inl r1)), (0, .inr (.inr l0)), (1, .inr (.inr 20)), (2, .inl l2), (3, .inl l3), (4, .inl l4)]) dX6_greatestLevel_63 rfl rfl (by decide) rfl ?_
              refine zr_goto (pc' := 6) dX6_greatestLevel_66 rfl ?_
              obtain ⟨n', hn, h⟩ := h
              exact zn_al ((ih n' hn) _ _ _ _ _ h) ⟨rfl, rfl, rfl, rfl, rfl, rfl, trivial⟩
            · have h := h.2.2 hc
              refine zr_aload_n (pc' := 55) (i := 0) dX6_greatestLevel_54 rfl rfl rfl ?_
              refine zr_get (pc' := 58) dX6_greatestLevel_55 rfl (is_6_pos hi0) (is_6_kd hi0) fl_X6_21 kc_6 (is_6_gv_3 hi0 _) ?_
              refine zr_iload (pc' := 60) dX6_greatestLevel_58 rfl rfl ?_
              refine zr_iald (pc' := 61) dX6_greatestLevel_60 rfl (is_6_kp_3 hi0) (is_6_ka_3 hi0) (by decide) h.1.1 h.1.2 ?_
              have h := h.2
              refine zr_istore (pc' := 63) (al' := [(4, .inl (M2 (l0 + 4).toNat l5.toNat)), (6, .inr (.inl r1)), (0, .inr (.inr l0)), (1, .inr (.inr 20)), (2, .inl l2), (3, .inl l3), (5, .inl l5)]) dX6_greatestLevel_61 rfl (by decide) rfl ?_
              refine zr_iinc (pc' := 66) (al' := [(5, .inl (l5 + 1)), (4, .inl (M2 (l0 + 4).toNat l5.toNat)), (6, .inr (.inl r1)), (0, .inr (.inr l0)), (1, .inr (.inr 20)), (2, .inl l2), (3, .inl l3)]) dX6_greatestLevel_63 rfl rfl (by decide) rfl ?_
              refine zr_goto (pc' := 6) dX6_greatestLevel_66 rfl ?_
              obtain ⟨n', hn, h⟩ := h
              exact zn_al ((ih n' hn) _ _ _ _ _ h) ⟨rfl, rfl, rfl, rfl, rfl, rfl, trivial⟩
  refine zP_of (by decide +kernel) rfl (Nat.le_of_ble_eq_true rfl) ?_
  show zA E zNN (0, 0) mX6_greatestLevel 0 [(0, .inr (.inr l0)), (1, .inr (.inr 20)), (2, .inl l2), (3, .inl l3)] [] M (zQ Q)
  refine zr_iconst (pc' := 1) dX6_greatestLevel_0 rfl ?_
  refine zr_istore (pc' := 3) (al' := [(4, .inl 0), (0, .inr (.inr l0)), (1, .inr (.inr 20)), (2, .inl l2), (3, .inl l3)]) dX6_greatestLevel_1 rfl (by decide) rfl ?_
  refine zr_iconst (pc' := 4) dX6_greatestLevel_3 rfl ?_
  refine zr_istore (pc' := 6) (al' := [(5, .inl 0), (4, .inl 0), (0, .inr (.inr l0)), (1, .inr (.inr 20)), (2, .inl l2), (3, .inl l3)]) dX6_greatestLevel_4 rfl (by decide) rfl ?_
  obtain ⟨n', h⟩ := h
  exact zn_al ((key n') _ _ _ _ _ h) ⟨rfl, rfl, rfl, rfl, rfl, rfl, trivial⟩
set_option maxRecDepth 20000 in
theorem vcX6_value {E : zE} {M : zM} {Q : Int → zM → Prop} (l0 l1 l3 l4 : Int) (hi0 : zIs_6 l0) (I23 : Nat → Int → Int → Int → Int → zM → Prop)
    (h : (∀ M1, M1 = zup M l0.toNat 6 0 → ((zR l1) ∧ ((l1 ≤ 0 → ∃ n', I23 n' l1 l3 l4 0 M1) ∧ (0 < l1 → (0 ≤ l1 - 1 ∧ l1 - 1 < 12) ∧ ∃ n', I23 n' l1 l3 l4 (M1 (l0 + 5).toNat ((l1 - 1).toNat)) M1)))))
    (h23 : ∀ (n : Nat) (l1 l3 l4 l5 : Int) (M : zM), I23 n l1 l3 l4 l5 M → (0 ≤ l1 ∧ l1 < 12) ∧ ((zR l5 ∧ zR (M (l0 + 5).toNat l1.toNat)) ∧ (((M (l0 + 5).toNat l1.toNat) ≤ l5 → ((zR (M l0.toNat 6)) ∧ (((M l0.toNat 6) ≤ 0 → Q (-9223372036854775808) M) ∧ (0 < (M l0.toNat 6) → (0 ≤ (M l0.toNat 6) - 1 ∧ (M l0.toNat 6) - 1 < 64) ∧ Q (M (l0 + 6).toNat (((M l0.toNat 6) - 1).toNat)) M)))) ∧ (l5 < (M (l0 + 5).toNat l1.toNat) → (zP E mX6_knotValue [.inr (.inr l0), .inl l5, .inr (.inr 20), .inl l3, .inl l4] M (fun r2 M3 => ((zL r2) ∧ ((1000000000000 < r2 → Q (-9223372036854775808) M3) ∧ (r2 ≤ 1000000000000 → ((zL r2) ∧ (((-1000000000000) ≤ r2 → (zP E mX6_push [.inr (.inr l0), .inr (.inl r2)] M3 (fun r4 M5 => ∃ n', n' < n ∧ I23 n' l1 l3 l4 (l5 + 1) M5))) ∧ (r2 < (-1000000000000) → Q (-9223372036854775808) M3))))))))))))
    : zP E mX6_value [.inr (.inr l0), .inl l1, .inr (.inr 20), .inl l3, .inl l4] M Q := by
  have key : ∀ n : Nat, (∀ (l1 l3 l4 l5 : Int) (M : zM), I23 n l1 l3 l4 l5 M → zA E zNN (0, 0) mX6_value 23 [(0, .inr (.inr l0)), (1, .inl l1), (2, .inr (.inr 20)), (3, .inl l3), (4, .inl l4), (5, .inl l5)] [] M (zQ Q)) := by
    intro n
    induction n using Nat.strongRecOn with
    | ind n ih =>
      intro l1 l3 l4 l5 M h
      have h := h23 n l1 l3 l4 l5 M h
      refine zr_iload (pc' := 25) dX6_value_23 rfl rfl ?_
      refine zr_aload_n (pc' := 26) (i := 0) dX6_value_25 rfl rfl rfl ?_
      refine zr_get (pc' := 29) dX6_value_26 rfl (is_6_pos hi0) (is_6_kd hi0) fl_X6_24 kc_6 (is_6_gv_4 hi0 _) ?_
      refine zr_iload_n (pc' := 30) (i := 1) dX6_value_29 rfl rfl rfl ?_
      refine zr_iald (pc' := 31) dX6_value_30 rfl (is_6_kp_4 hi0) (is_6_ka_4 hi0) (by decide) h.1.1 h.1.2 ?_
      have h := h.2
      refine zr_icmp_ge (tgt := 80) (pc' := 34) dX6_value_31 rfl rfl h.1.1 h.1.2 (fun hc => ?_) (fun hc => ?_)
      · have h := h.2.1 hc
        refine zr_aload_n (pc' := 81) (i := 0) dX6_value_80 rfl rfl rfl ?_
        refine zr_get (pc' := 84) dX6_value_81 rfl (is_6_pos hi0) (is_6_kd hi0) fl_X6_54 kc_6 (is_6_gv_6 hi0 _) ?_
        refine zr_if_le (tgt := 101) (pc' := 87) dX6_value_84 rfl rfl h.1 (fun hc => ?_) (fun hc => ?_)
        · have h := h.2.1 hc
          refine zr_ldc2 (pc' := 104) (x := -9223372036854775808) dX6_value_101 rfl ci_X6_52 ?_
          exact zr_lreturn dX6_value_104 rfl (Nat.le_refl _) (Nat.le_refl _) (And.intro rfl h)
        · have h := h.2.2 hc
          refine zr_aload_n (pc' := 88) (i := 0) dX6_value_87 rfl rfl rfl ?_
          refine zr_get (pc' := 91) dX6_value_88 rfl (is_6_pos hi0) (is_6_kd hi0) fl_X6_27 kc_6 (is_6_gv_5 hi0 _) ?_
          refine zr_aload_n (pc' := 92) (i := 0) dX6_value_91 rfl rfl rfl ?_
          refine zr_get (pc' := 95) dX6_value_92 rfl (is_6_pos hi0) (is_6_kd hi0) fl_X6_54 kc_6 (is_6_gv_6 hi0 _) ?_
          refine zr_iconst (pc' := 96) dX6_value_95 rfl ?_
          refine zr_isub (pc' := 97) dX6_value_96 rfl ?_
          refine zr_lald (pc' := 98) dX6_value_97 rfl (is_6_kp_5 hi0) (is_6_ka_5 hi0) (by decide) h.1.1 h.1.2 ?_
          have h := h.2
          refine zr_goto (pc' := 104) dX6_value_98 rfl ?_
          exact zr_lreturn dX6_value_104 rfl (Nat.le_refl _) (Nat.le_refl _) (And.intro rfl h)
      · have h := h.2.2 hc
        refine zr_aload_n (pc' := 35) (i := 0) dX6_value_34 rfl rfl rfl ?_
        refine zr_iload (pc' := 37) dX6_value_35 rfl rfl ?_
        refine zr_aload_n (pc' := 38) (i := 2) dX6_value_37 rfl rfl rfl ?_
        refine zr_iload_n (pc' := 39) (i := 3) dX6_value_38 rfl rfl rfl ?_
        refine zr_iload (pc' := 41) dX6_value_39 rfl rfl ?_
        refine zn_callV (pc' := 44) (args := [.inl l5, .inr (.inr 20), .inl l3, .inl l4]) (st := []) (st' := fun r2 => [.inr (.inl r2)]) dX6_value_41 rfl cv_X6_57 ⟨rfl, rfl, by decide, by decide⟩ rfl (is_6_pos hi0) (is_6_kd hi0) rfl rfl (Nat.le_of_ble_eq_true rfl) (fun _ => rfl) h ?_
        intro r2 M3 h
        refine zr_lstore (pc' := 46) (al' := [(6, .inr (.inl r2)), (0, .inr (.inr l0)), (1, .inl l1), (2, .inr (.inr 20)), (3, .inl l3), (4, .inl l4), (5, .inl l5)]) dX6_value_44 rfl (by decide) rfl ?_
        refine zr_lload (pc' := 48) dX6_value_46 rfl rfl ?_
        refine zr_ldc2 (pc' := 51) (x := 1000000000000) dX6_value_48 rfl ci_X6_60 ?_
        refine zn_lif_gt (tgt := 64) (pc1 := 52) (pc' := 55) dX6_value_51 rfl dX6_value_52 rfl rfl h.1 (zLd rfl) (fun hc => ?_) (fun hc => ?_)
        · have h := h.2.1 hc
          refine zr_ldc2 (pc' := 67) (x := -9223372036854775808) dX6_value_64 rfl ci_X6_52 ?_
          exact zr_lreturn dX6_value_67 rfl (Nat.le_refl _) (Nat.le_refl _) (And.intro rfl h)
        · have h := h.2.2 hc
          refine zr_lload (pc' := 57) dX6_value_55 rfl rfl ?_
          refine zr_ldc2 (pc' := 60) (x := -1000000000000) dX6_value_57 rfl ci_X6_62 ?_
          refine zn_lif_ge (tgt := 68) (pc1 := 61) (pc' := 64) dX6_value_60 rfl dX6_value_61 rfl rfl h.1 (zLd rfl) (fun hc => ?_) (fun hc => ?_)
          · have h := h.2.1 hc
            refine zr_aload_n (pc' := 69) (i := 0) dX6_value_68 rfl rfl rfl ?_
            refine zr_lload (pc' := 71) dX6_value_69 rfl rfl ?_
            refine zn_callV (pc' := 74) (args := [.inr (.inl r2)]) (st := []) (st' := fun _ => []) dX6_value_71 rfl cv_X6_64 ⟨rfl, rfl, by decide, by decide⟩ rfl (is_6_pos hi0) (is_6_kd hi0) rfl rfl (Nat.le_of_ble_eq_true rfl) (fun _ => rfl) h ?_
            intro r4 M5 h
            refine zr_iinc (pc' := 77) (al' := [(5, .inl (l5 + 1)), (6, .inr (.inl r2)), (0, .inr (.inr l0)), (1, .inl l1), (2, .inr (.inr 20)), (3, .inl l3), (4, .inl l4)]) dX6_value_74 rfl rfl (by decide) rfl ?_
            refine zr_goto (pc' := 23) dX6_value_77 rfl ?_
            obtain ⟨n', hn, h⟩ := h
            exact zn_al ((ih n' hn) _ _ _ _ _ h) ⟨rfl, rfl, rfl, rfl, rfl, rfl, trivial⟩
          · have h := h.2.2 hc
            refine zr_ldc2 (pc' := 67) (x := -9223372036854775808) dX6_value_64 rfl ci_X6_52 ?_
            exact zr_lreturn dX6_value_67 rfl (Nat.le_refl _) (Nat.le_refl _) (And.intro rfl h)
  refine zP_of (by decide +kernel) rfl (Nat.le_of_ble_eq_true rfl) ?_
  show zA E zNN (0, 0) mX6_value 0 [(0, .inr (.inr l0)), (1, .inl l1), (2, .inr (.inr 20)), (3, .inl l3), (4, .inl l4)] [] M (zQ Q)
  refine zr_aload_n (pc' := 1) (i := 0) dX6_value_0 rfl rfl rfl ?_
  refine zr_iconst (pc' := 2) dX6_value_1 rfl ?_
  refine zr_put (pc' := 5) dX6_value_2 rfl (is_6_pos hi0) (is_6_kd hi0) fl_X6_54 kc_6 rfl (is_6_nf_6 hi0) rfl trivial (fun M1 hM1 => ?_)
  have h := h M1 hM1
  refine zr_iload_n (pc' := 6) (i := 1) dX6_value_5 rfl rfl rfl ?_
  refine zr_if_le (tgt := 20) (pc' := 9) dX6_value_6 rfl rfl h.1 (fun hc => ?_) (fun hc => ?_)
  · have h := h.2.1 hc
    refine zr_iconst (pc' := 21) dX6_value_20 rfl ?_
    refine zr_istore (pc' := 23) (al' := [(5, .inl 0), (0, .inr (.inr l0)), (1, .inl l1), (2, .inr (.inr 20)), (3, .inl l3), (4, .inl l4)]) dX6_value_21 rfl (by decide) rfl ?_
    obtain ⟨n', h⟩ := h
    exact zn_al ((key n') _ _ _ _ _ h) ⟨rfl, rfl, rfl, rfl, rfl, rfl, trivial⟩
  · have h := h.2.2 hc
    refine zr_aload_n (pc' := 10) (i := 0) dX6_value_9 rfl rfl rfl ?_
    refine zr_get (pc' := 13) dX6_value_10 rfl (is_6_pos hi0) (is_6_kd hi0) fl_X6_24 kc_6 (is_6_gv_4 hi0 _) ?_
    refine zr_iload_n (pc' := 14) (i := 1) dX6_value_13 rfl rfl rfl ?_
    refine zr_iconst (pc' := 15) dX6_value_14 rfl ?_
    refine zr_isub (pc' := 16) dX6_value_15 rfl ?_
    refine zr_iald (pc' := 17) dX6_value_16 rfl (is_6_kp_4 hi0) (is_6_ka_4 hi0) (by decide) h.1.1 h.1.2 ?_
    have h := h.2
    refine zr_goto (pc' := 21) dX6_value_17 rfl ?_
    refine zr_istore (pc' := 23) (al' := [(5, .inl (M1 (l0 + 5).toNat ((l1 - 1).toNat))), (0, .inr (.inr l0)), (1, .inl l1), (2, .inr (.inr 20)), (3, .inl l3), (4, .inl l4)]) dX6_value_21 rfl (by decide) rfl ?_
    obtain ⟨n', h⟩ := h
    exact zn_al ((key n') _ _ _ _ _ h) ⟨rfl, rfl, rfl, rfl, rfl, rfl, trivial⟩
set_option maxRecDepth 20000 in
theorem vcX6_push {E : zE} {M : zM} {Q : Int → zM → Prop} (l0 l1 : Int) (hi0 : zIs_6 l0)
    (h : ((zR (M l0.toNat 6)) ∧ ((64 ≤ (M l0.toNat 6) → Q 0 M) ∧ ((M l0.toNat 6) < 64 → (0 ≤ M l0.toNat 6 ∧ M l0.toNat 6 < 64) ∧ (∀ M1, M1 = zup M (l0 + 6).toNat ((M l0.toNat 6).toNat) l1 → (∀ M2, M2 = zup M1 l0.toNat 6 ((M1 l0.toNat 6) + 1) → Q 0 M2))))))
    : zP E mX6_push [.inr (.inr l0), .inr (.inl l1)] M Q := by
  refine zP_of (by decide +kernel) rfl (Nat.le_of_ble_eq_true rfl) ?_
  show zA E zNN (0, 0) mX6_push 0 [(0, .inr (.inr l0)), (1, .inr (.inl l1))] [] M (zQ Q)
  refine zr_aload_n (pc' := 1) (i := 0) dX6_push_0 rfl rfl rfl ?_
  refine zr_get (pc' := 4) dX6_push_1 rfl (is_6_pos hi0) (is_6_kd hi0) fl_X6_54 kc_6 (is_6_gv_6 hi0 _) ?_
  refine zr_bipush (pc' := 6) dX6_push_4 rfl rfl ?_
  refine zr_icmp_ge (tgt := 29) (pc' := 9) dX6_push_6 rfl rfl h.1 (zRd rfl) (fun hc => ?_) (fun hc => ?_)
  · have h := h.2.1 hc
    exact zr_return (x := 0) dX6_push_29 rfl (Nat.le_refl _) (Nat.le_refl _) (And.intro rfl h)
  · have h := h.2.2 hc
    refine zr_aload_n (pc' := 10) (i := 0) dX6_push_9 rfl rfl rfl ?_
    refine zr_get (pc' := 13) dX6_push_10 rfl (is_6_pos hi0) (is_6_kd hi0) fl_X6_27 kc_6 (is_6_gv_5 hi0 _) ?_
    refine zr_aload_n (pc' := 14) (i := 0) dX6_push_13 rfl rfl rfl ?_
    refine zr_get (pc' := 17) dX6_push_14 rfl (is_6_pos hi0) (is_6_kd hi0) fl_X6_54 kc_6 (is_6_gv_6 hi0 _) ?_
    refine zr_lload_n (pc' := 18) (i := 1) dX6_push_17 rfl rfl rfl ?_
    refine zr_last (pc' := 19) dX6_push_18 rfl (is_6_kp_5 hi0) (is_6_ka_5 hi0) (by decide) h.1.1 h.1.2 (fun M1 hM1 => ?_)
    have h := h.2 M1 hM1
    refine zr_aload_n (pc' := 20) (i := 0) dX6_push_19 rfl rfl rfl ?_
    refine zr_dup (pc' := 21) dX6_push_20 rfl rfl ?_
    refine zr_get (pc' := 24) dX6_push_21 rfl (is_6_pos hi0) (is_6_kd hi0) fl_X6_54 kc_6 (is_6_gv_6 hi0 _) ?_
    refine zr_iconst (pc' := 25) dX6_push_24 rfl ?_
    refine zr_iadd (pc' := 26) dX6_push_25 rfl ?_
    refine zr_put (pc' := 29) dX6_push_26 rfl (is_6_pos hi0) (is_6_kd hi0) fl_X6_54 kc_6 rfl (is_6_nf_6 hi0) rfl trivial (fun M2 hM1 => ?_)
    have h := h M2 hM1
    exact zr_return (x := 0) dX6_push_29 rfl (Nat.le_refl _) (Nat.le_refl _) (And.intro rfl h)
set_option maxRecDepth 20000 in
theorem vcX6_pop {E : zE} {M : zM} {Q : Int → zM → Prop} (l0 : Int) (hi0 : zIs_6 l0)
    (h : ((zR (M l0.toNat 6)) ∧ ((0 < (M l0.toNat 6) → (∀ M1, M1 = zup M l0.toNat 6 ((M l0.toNat 6) - 1) → (0 ≤ M1 l0.toNat 6 ∧ M1 l0.toNat 6 < 64) ∧ Q (M1 (l0 + 6).toNat ((M1 l0.toNat 6).toNat)) M1)) ∧ ((M l0.toNat 6) ≤ 0 → Q 0 M))))
    : zP E mX6_pop [.inr (.inr l0)] M Q := by
  refine zP_of (by decide +kernel) rfl (Nat.le_of_ble_eq_true rfl) ?_
  show zA E zNN (0, 0) mX6_pop 0 [(0, .inr (.inr l0))] [] M (zQ Q)
  refine zr_aload_n (pc' := 1) (i := 0) dX6_pop_0 rfl rfl rfl ?_
  refine zr_get (pc' := 4) dX6_pop_1 rfl (is_6_pos hi0) (is_6_kd hi0) fl_X6_54 kc_6 (is_6_gv_6 hi0 _) ?_
  refine zr_if_gt (tgt := 9) (pc' := 7) dX6_pop_4 rfl rfl h.1 (fun hc => ?_) (fun hc => ?_)
  · have h := h.2.1 hc
    refine zr_aload_n (pc' := 10) (i := 0) dX6_pop_9 rfl rfl rfl ?_
    refine zr_dup (pc' := 11) dX6_pop_10 rfl rfl ?_
    refine zr_get (pc' := 14) dX6_pop_11 rfl (is_6_pos hi0) (is_6_kd hi0) fl_X6_54 kc_6 (is_6_gv_6 hi0 _) ?_
    refine zr_iconst (pc' := 15) dX6_pop_14 rfl ?_
    refine zr_isub (pc' := 16) dX6_pop_15 rfl ?_
    refine zr_put (pc' := 19) dX6_pop_16 rfl (is_6_pos hi0) (is_6_kd hi0) fl_X6_54 kc_6 rfl (is_6_nf_6 hi0) rfl trivial (fun M1 hM1 => ?_)
    have h := h M1 hM1
    refine zr_aload_n (pc' := 20) (i := 0) dX6_pop_19 rfl rfl rfl ?_
    refine zr_get (pc' := 23) dX6_pop_20 rfl (is_6_pos hi0) (is_6_kd hi0) fl_X6_27 kc_6 (is_6_gv_5 hi0 _) ?_
    refine zr_aload_n (pc' := 24) (i := 0) dX6_pop_23 rfl rfl rfl ?_
    refine zr_get (pc' := 27) dX6_pop_24 rfl (is_6_pos hi0) (is_6_kd hi0) fl_X6_54 kc_6 (is_6_gv_6 hi0 _) ?_
    refine zr_lald (pc' := 28) dX6_pop_27 rfl (is_6_kp_5 hi0) (is_6_ka_5 hi0) (by decide) h.1.1 h.1.2 ?_
    have h := h.2
    exact zr_lreturn dX6_pop_28 rfl (Nat.le_refl _) (Nat.le_refl _) (And.intro rfl h)
  · have h := h.2.2 hc
    refine zr_lconst (pc' := 8) (x := 0) dX6_pop_7 rfl rfl ?_
    exact zr_lreturn dX6_pop_8 rfl (Nat.le_refl _) (Nat.le_refl _) (And.intro rfl h)
set_option maxRecDepth 20000 in
theorem vcX6_knotValue {E : zE} {M : zM} {Q : Int → zM → Prop} (l0 l1 l3 l4 : Int) (hi0 : zIs_6 l0)
    (h : (0 ≤ l1 ∧ l1 < 64) ∧ ((zR (M (l0 + 1).toNat l1.toNat)) ∧ ((¬ (M (l0 + 1).toNat l1.toNat) = 16 → ((zR (M (l0 + 1).toNat l1.toNat)) ∧ (((M (l0 + 1).toNat l1.toNat) < 5 → (zP E mX6_pop [.inr (.inr l0)] M (fun r1 M2 => ((zR (M (l0 + 1).toNat l1.toNat)) ∧ ((¬ (M (l0 + 1).toNat l1.toNat) = 4 → ((zR (M (l0 + 1).toNat l1.toNat)) ∧ ((¬ (M (l0 + 1).toNat l1.toNat) = 31 → (zP E mX6_pop [.inr (.inr l0)] M2 (fun r3 M4 => (zP E mX6_join [.inl (M (l0 + 1).toNat l1.toNat), .inr (.inl r3), .inr (.inl r1)] M4 (fun r5 M6 => Q r5 M6))))) ∧ ((M (l0 + 1).toNat l1.toNat) = 31 → Q (-r1) M2)))) ∧ ((M (l0 + 1).toNat l1.toNat) = 4 → ((zL r1) ∧ ((¬ r1 = 0 → (zP E mX6_asNumber [.inl 0] M2 (fun r7 M8 => Q r7 M8))) ∧ (r1 = 0 → (zP E mX6_asNumber [.inl 1] M2 (fun r9 M10 => Q r9 M10))))))))))) ∧ (5 ≤ (M (l0 + 1).toNat l1.toNat) → ((zR (M (l0 + 1).toNat l1.toNat)) ∧ ((11 < (M (l0 + 1).toNat l1.toNat) → (zP E mX6_pop [.inr (.inr l0)] M (fun r11 M12 => ((zR (M (l0 + 1).toNat l1.toNat)) ∧ ((¬ (M (l0 + 1).toNat l1.toNat) = 4 → ((zR (M (l0 + 1).toNat l1.toNat)) ∧ ((¬ (M (l0 + 1).toNat l1.toNat) = 31 → (zP E mX6_pop [.inr (.inr l0)] M12 (fun r13 M14 => (zP E mX6_join [.inl (M (l0 + 1).toNat l1.toNat), .inr (.inl r13), .inr (.inl r11)] M14 (fun r15 M16 => Q r15 M16))))) ∧ ((M (l0 + 1).toNat l1.toNat) = 31 → Q (-r11) M12)))) ∧ ((M (l0 + 1).toNat l1.toNat) = 4 → ((zL r11) ∧ ((¬ r11 = 0 → (zP E mX6_asNumber [.inl 0] M12 (fun r17 M18 => Q r17 M18))) ∧ (r11 = 0 → (zP E mX6_asNumber [.inl 1] M12 (fun r19 M20 => Q r19 M20))))))))))) ∧ ((M (l0 + 1).toNat l1.toNat) ≤ 11 → (0 ≤ l1 ∧ l1 < 64) ∧ (0 ≤ l1 ∧ l1 < 64) ∧ (zP E mX5_overWindow [.inr (.inr 20), .inl (M (l0 + 1).toNat l1.toNat), .inl (M (l0 + 2).toNat l1.toNat), .inl (M (l0 + 3).toNat l1.toNat), .inl l3, .inl l4] M (fun r21 M22 => Q r21 M22))))))))) ∧ ((M (l0 + 1).toNat l1.toNat) = 16 → (0 ≤ l1 ∧ l1 < 64) ∧ zR (M (l0 + 3).toNat l1.toNat) ∧ Q (M (l0 + 3).toNat l1.toNat) M))))
    : zP E mX6_knotValue [.inr (.inr l0), .inl l1, .inr (.inr 20), .inl l3, .inl l4] M Q := by
  refine zP_of (by decide +kernel) rfl (Nat.le_of_ble_eq_true rfl) ?_
  show zA E zNN (0, 0) mX6_knotValue 0 [(0, .inr (.inr l0)), (1, .inl l1), (2, .inr (.inr 20)), (3, .inl l3), (4, .inl l4)] [] M (zQ Q)
  refine zr_aload_n (pc' := 1) (i := 0) dX6_knotValue_0 rfl rfl rfl ?_
  refine zr_get (pc' := 4) dX6_knotValue_1 rfl (is_6_pos hi0) (is_6_kd hi0) fl_X6_11 kc_6 (is_6_gv_0 hi0 _) ?_
  refine zr_iload_n (pc' := 5) (i := 1) dX6_knotValue_4 rfl rfl rfl ?_
  refine zr_iald (pc' := 6) dX6_knotValue_5 rfl (is_6_kp_0 hi0) (is_6_ka_0 hi0) (by decide) h.1.1 h.1.2 ?_
  have h := h.2
  refine zr_istore (pc' := 8) (al' := [(5, .inl (M (l0 + 1).toNat l1.toNat)), (0, .inr (.inr l0)), (1, .inl l1), (2, .inr (.inr 20)), (3, .inl l3), (4, .inl l4)]) dX6_knotValue_6 rfl (by decide) rfl ?_
  refine zr_iload (pc' := 10) dX6_knotValue_8 rfl rfl ?_
  refine zr_bipush (pc' := 12) dX6_knotValue_10 rfl rfl ?_
  refine zr_icmp_ne (tgt := 23) (pc' := 15) dX6_knotValue_12 rfl rfl h.1 (zRd rfl) (fun hc => ?_) (fun hc => ?_)
  · have h := h.2.1 hc
    refine zr_iload (pc' := 25) dX6_knotValue_23 rfl rfl ?_
    refine zr_iconst (pc' := 26) dX6_knotValue_25 rfl ?_
    refine zr_icmp_lt (tgt := 58) (pc' := 29) dX6_knotValue_26 rfl rfl h.1 (zRd rfl) (fun hc => ?_) (fun hc => ?_)
    · have h := h.2.1 hc
      refine zr_aload_n (pc' := 59) (i := 0) dX6_knotValue_58 rfl rfl rfl ?_
      refine zn_callV (pc' := 62) (args := []) (st := []) (st' := fun r1 => [.inr (.inl r1)]) dX6_knotValue_59 rfl cv_X6_76 ⟨rfl, rfl, by decide, by decide⟩ rfl (is_6_pos hi0) (is_6_kd hi0) rfl rfl (Nat.le_of_ble_eq_true rfl) (fun _ => rfl) h ?_
      intro r1 M2 h
      refine zr_lstore (pc' := 64) (al' := [(6, .inr (.inl r1)), (5, .inl (M (l0 + 1).toNat l1.toNat)), (0, .inr (.inr l0)), (1, .inl l1), (2, .inr (.inr 20)), (3, .inl l3), (4, .inl l4)]) dX6_knotValue_62 rfl (by decide) rfl ?_
      refine zr_iload (pc' := 66) dX6_knotValue_64 rfl rfl ?_
      refine zr_iconst (pc' := 67) dX6_knotValue_66 rfl ?_
      refine zr_icmp_ne (tgt := 86) (pc' := 70) dX6_knotValue_67 rfl rfl h.1 (zRd rfl) (fun hc => ?_) (fun hc => ?_)
      · have h := h.2.1 hc
        refine zr_iload (pc' := 88) dX6_knotValue_86 rfl rfl ?_
        refine zr_bipush (pc' := 90) dX6_knotValue_88 rfl rfl ?_
        refine zr_icmp_ne (tgt := 97) (pc' := 93) dX6_knotValue_90 rfl rfl h.1 (zRd rfl) (fun hc => ?_) (fun hc => ?_)
        · have h := h.2.1 hc
          refine zr_iload (pc' := 99) dX6_knotValue_97 rfl rfl ?_
          refine zr_aload_n (pc' := 100) (i := 0) dX6_knotValue_99 rfl rfl rfl ?_
          refine zn_callV (pc' := 103) (args := []) (st := [.inl (M (l0 + 1).toNat l1.toNat)]) (st' := fun r3 => [.inr (.inl r3), .inl (M (l0 + 1).toNat l1.toNat)]) dX6_knotValue_100 rfl cv_X6_76 ⟨rfl, rfl, by decide, by decide⟩ rfl (is_6_pos hi0) (is_6_kd hi0) rfl rfl (Nat.le_of_ble_eq_true rfl) (fun _ => rfl) h ?_
          intro r3 M4 h
          refine zr_lload (pc' := 105) dX6_knotValue_103 rfl rfl ?_
          refine zn_callS (pc' := 108) (args := [.inl (M (l0 + 1).toNat l1.toNat), .inr (.inl r3), .inr (.inl r1)]) (st := []) (st' := fun r5 => [.inr (.inl r5)]) dX6_knotValue_105 rfl cs_X6_84 ⟨rfl, rfl, by decide, by decide⟩ rfl rfl rfl (Nat.le_of_ble_eq_true rfl) (fun _ => rfl) h ?_
          intro r5 M6 h
          exact zr_lreturn dX6_knotValue_108 rfl (Nat.le_refl _) (Nat.le_refl _) (And.intro rfl h)
        · have h := h.2.2 hc
          refine zr_lload (pc' := 95) dX6_knotValue_93 rfl rfl ?_
          refine zr_lneg (pc' := 96) dX6_knotValue_95 rfl ?_
          exact zr_lreturn dX6_knotValue_96 rfl (Nat.le_refl _) (Nat.le_refl _) (And.intro rfl h)
      · have h := h.2.2 hc
        refine zr_lload (pc' := 72) dX6_knotValue_70 rfl rfl ?_
        refine zr_lconst (pc' := 73) (x := 0) dX6_knotValue_72 rfl rfl ?_
        refine zn_lif_ne (tgt := 81) (pc1 := 74) (pc' := 77) dX6_knotValue_73 rfl dX6_knotValue_74 rfl rfl h.1 (zLd rfl) (fun hc => ?_) (fun hc => ?_)
        · have h := h.2.1 hc
          refine zr_iconst (pc' := 82) dX6_knotValue_81 rfl ?_
          refine zn_callS (pc' := 85) (args := [.inl 0]) (st := []) (st' := fun r7 => [.inr (.inl r7)]) dX6_knotValue_82 rfl cs_X6_80 ⟨rfl, rfl, by decide, by decide⟩ rfl rfl rfl (Nat.le_of_ble_eq_true rfl) (fun _ => rfl) h ?_
          intro r7 M8 h
          exact zr_lreturn dX6_knotValue_85 rfl (Nat.le_refl _) (Nat.le_refl _) (And.intro rfl h)
        · have h := h.2.2 hc
          refine zr_iconst (pc' := 78) dX6_knotValue_77 rfl ?_
          refine zr_goto (pc' := 82) dX6_knotValue_78 rfl ?_
          refine zn_callS (pc' := 85) (args := [.inl 1]) (st := []) (st' := fun r9 => [.inr (.inl r9)]) dX6_knotValue_82 rfl cs_X6_80 ⟨rfl, rfl, by decide, by decide⟩ rfl rfl rfl (Nat.le_of_ble_eq_true rfl) (fun _ => rfl) h ?_
          intro r9 M10 h
          exact zr_lreturn dX6_knotValue_85 rfl (Nat.le_refl _) (Nat.le_refl _) (And.intro rfl h)
    · have h := h.2.2 hc
      refine zr_iload (pc' := 31) dX6_knotValue_29 rfl rfl ?_
      refine zr_bipush (pc' := 33) dX6_knotValue_31 rfl rfl ?_
      refine zr_icmp_gt (tgt := 58) (pc' := 36) dX6_knotValue_33 rfl rfl h.1 (zRd rfl) (fun hc => ?_) (fun hc => ?_)
      · have h := h.2.1 hc
        refine zr_aload_n (pc' := 59) (i := 0) dX6_knotValue_58 rfl rfl rfl ?_
        refine zn_callV (pc' := 62) (args := []) (st := []) (st' := fun r11 => [.inr (.inl r11)]) dX6_knotValue_59 rfl cv_X6_76 ⟨rfl, rfl, by decide, by decide⟩ rfl (is_6_pos hi0) (is_6_kd hi0) rfl rfl (Nat.le_of_ble_eq_true rfl) (fun _ => rfl) h ?_
        intro r11 M12 h
        refine zr_lstore (pc' := 64) (al' := [(6, .inr (.inl r11)), (5, .inl (M (l0 + 1).toNat l1.toNat)), (0, .inr (.inr l0)), (1, .inl l1), (2, .inr (.inr 20)), (3, .inl l3), (4, .inl l4)]) dX6_knotValue_62 rfl (by decide) rfl ?_
        refine zr_iload (pc' := 66) dX6_knotValue_64 rfl rfl ?_
        refine zr_iconst (pc' := 67) dX6_knotValue_66 rfl ?_
        refine zr_icmp_ne (tgt := 86) (pc' := 70) dX6_knotValue_67 rfl rfl h.1 (zRd rfl) (fun hc => ?_) (fun hc => ?_)
        · have h := h.2.1 hc
          refine zr_iload (pc' := 88) dX6_knotValue_86 rfl rfl ?_
          refine zr_bipush (pc' := 90) dX6_knotValue_88 rfl rfl ?_
          refine zr_icmp_ne (tgt := 97) (pc' := 93) dX6_knotValue_90 rfl rfl h.1 (zRd rfl) (fun hc => ?_) (fun hc => ?_)
          · have h := h.2.1 hc
            refine zr_iload (pc' := 99) dX6_knotValue_97 rfl rfl ?_
            refine zr_aload_n (pc' := 100) (i := 0) dX6_knotValue_99 rfl rfl rfl ?_
            refine zn_callV (pc' := 103) (args := []) (st := [.inl (M (l0 + 1).toNat l1.toNat)]) (st' := fun r13 => [.inr (.inl r13), .inl (M (l0 + 1).toNat l1.toNat)]) dX6_knotValue_100 rfl cv_X6_76 ⟨rfl, rfl, by decide, by decide⟩ rfl (is_6_pos hi0) (is_6_kd hi0) rfl rfl (Nat.le_of_ble_eq_true rfl) (fun _ => rfl) h ?_
            intro r13 M14 h
            refine zr_lload (pc' := 105) dX6_knotValue_103 rfl rfl ?_
            refine zn_callS (pc' := 108) (args := [.inl (M (l0 + 1).toNat l1.toNat), .inr (.inl r13), .inr (.inl r11)]) (st := []) (st' := fun r15 => [.inr (.inl r15)]) dX6_knotValue_105 rfl cs_X6_84 ⟨rfl, rfl, by decide, by decide⟩ rfl rfl rfl (Nat.le_of_ble_eq_true rfl) (fun _ => rfl) h ?_
            intro r15 M16 h
            exact zr_lreturn dX6_knotValue_108 rfl (Nat.le_refl _) (Nat.le_refl _) (And.intro rfl h)
          · have h := h.2.2 hc
            refine zr_lload (pc' := 95) dX6_knotValue_93 rfl rfl ?_
            refine zr_lneg (pc' := 96) dX6_knotValue_95 rfl ?_
            exact zr_lreturn dX6_knotValue_96 rfl (Nat.le_refl _) (Nat.le_refl _) (And.intro rfl h)
        · have h := h.2.2 hc
          refine zr_lload (pc' := 72) dX6_knotValue_70 rfl rfl ?_
          refine zr_lconst (pc' := 73) (x := 0) dX6_knotValue_72 rfl rfl ?_
          refine zn_lif_ne (tgt := 81) (pc1 := 74) (pc' := 77) dX6_knotValue_73 rfl dX6_knotValue_74 rfl rfl h.1 (zLd rfl) (fun hc => ?_) (fun hc => ?_)
          · have h := h.2.1 hc
            refine zr_iconst (pc' := 82) dX6_knotValue_81 rfl ?_
            refine zn_callS (pc' := 85) (args := [.inl 0]) (st := []) (st' := fun r17 => [.inr (.inl r17)]) dX6_knotValue_82 rfl cs_X6_80 ⟨rfl, rfl, by decide, by decide⟩ rfl rfl rfl (Nat.le_of_ble_eq_true rfl) (fun _ => rfl) h ?_
            intro r17 M18 h
            exact zr_lreturn dX6_knotValue_85 rfl (Nat.le_refl _) (Nat.le_refl _) (And.intro rfl h)
          · have h := h.2.2 hc
            refine zr_iconst (pc' := 78) dX6_knotValue_77 rfl ?_
            refine zr_goto (pc' := 82) dX6_knotValue_78 rfl ?_
            refine zn_callS (pc' := 85) (args := [.inl 1]) (st := []) (st' := fun r19 => [.inr (.inl r19)]) dX6_knotValue_82 rfl cs_X6_80 ⟨rfl, rfl, by decide, by decide⟩ rfl rfl rfl (Nat.le_of_ble_eq_true rfl) (fun _ => rfl) h ?_
            intro r19 M20 h
            exact zr_lreturn dX6_knotValue_85 rfl (Nat.le_refl _) (Nat.le_refl _) (And.intro rfl h)
      · have h := h.2.2 hc
        refine zr_aload_n (pc' := 37) (i := 2) dX6_knotValue_36 rfl rfl rfl ?_
        refine zr_iload (pc' := 39) dX6_knotValue_37 rfl rfl ?_
        refine zr_aload_n (pc' := 40) (i := 0) dX6_knotValue_39 rfl rfl rfl ?_
        refine zr_get (pc' := 43) dX6_knotValue_40 rfl (is_6_pos hi0) (is_6_kd hi0) fl_X6_15 kc_6 (is_6_gv_1 hi0 _) ?_
        refine zr_iload_n (pc' := 44) (i := 1) dX6_knotValue_43 rfl rfl rfl ?_
        refine zr_iald (pc' := 45) dX6_knotValue_44 rfl (is_6_kp_1 hi0) (is_6_ka_1 hi0) (by decide) h.1.1 h.1.2 ?_
        have h := h.2
        refine zr_aload_n (pc' := 46) (i := 0) dX6_knotValue_45 rfl rfl rfl ?_
        refine zr_get (pc' := 49) dX6_knotValue_46 rfl (is_6_pos hi0) (is_6_kd hi0) fl_X6_18 kc_6 (is_6_gv_2 hi0 _) ?_
        refine zr_iload_n (pc' := 50) (i := 1) dX6_knotValue_49 rfl rfl rfl ?_
        refine zr_iald (pc' := 51) dX6_knotValue_50 rfl (is_6_kp_2 hi0) (is_6_ka_2 hi0) (by decide) h.1.1 h.1.2 ?_
        have h := h.2
        refine zr_iload_n (pc' := 52) (i := 3) dX6_knotValue_51 rfl rfl rfl ?_
        refine zr_iload (pc' := 54) dX6_knotValue_52 rfl rfl ?_
        refine zn_callV (pc' := 57) (args := [.inl (M (l0 + 1).toNat l1.toNat), .inl (M (l0 + 2).toNat l1.toNat), .inl (M (l0 + 3).toNat l1.toNat), .inl l3, .inl l4]) (st := []) (st' := fun r21 => [.inr (.inl r21)]) dX6_knotValue_54 rfl cv_X6_70 ⟨rfl, rfl, by decide, by decide⟩ rfl ps_20 kd_20 rfl rfl (Nat.le_of_ble_eq_true rfl) (fun _ => rfl) h ?_
        intro r21 M22 h
        exact zr_lreturn dX6_knotValue_57 rfl (Nat.le_refl _) (Nat.le_refl _) (And.intro rfl h)
  · have h := h.2.2 hc
    refine zr_aload_n (pc' := 16) (i := 0) dX6_knotValue_15 rfl rfl rfl ?_
    refine zr_get (pc' := 19) dX6_knotValue_16 rfl (is_6_pos hi0) (is_6_kd hi0) fl_X6_18 kc_6 (is_6_gv_2 hi0 _) ?_
    refine zr_iload_n (pc' := 20) (i := 1) dX6_knotValue_19 rfl rfl rfl ?_
    refine zr_iald (pc' := 21) dX6_knotValue_20 rfl (is_6_kp_2 hi0) (is_6_ka_2 hi0) (by decide) h.1.1 h.1.2 ?_
    have h := h.2
    refine zr_i2l (pc' := 22) dX6_knotValue_21 rfl h.1 ?_
    have h := h.2
    exact zr_lreturn dX6_knotValue_22 rfl (Nat.le_refl _) (Nat.le_refl _) (And.intro rfl h)
set_option maxRecDepth 20000 in
theorem vcX6_join {E : zE} {M : zM} {Q : Int → zM → Prop} (l0 l1 l3 : Int)
    (h : (zR l0 ∧ ((l0 < 2 ∨ 30 < l0) → Q (-9223372036854775808) M) ∧ (l0 = 2 → ((zL l1) ∧ ((¬ l1 = 0 → (zP E mX6_asNumber [.inl 1] M (fun r1 M2 => Q r1 M2))) ∧ (l1 = 0 → ((zL l3) ∧ ((l3 = 0 → (zP E mX6_asNumber [.inl 0] M (fun r3 M4 => Q r3 M4))) ∧ (¬ l3 = 0 → (zP E mX6_asNumber [.inl 1] M (fun r5 M6 => Q r5 M6))))))))) ∧ (l0 = 3 → ((zL l1) ∧ ((l1 = 0 → (zP E mX6_asNumber [.inl 0] M (fun r7 M8 => Q r7 M8))) ∧ (¬ l1 = 0 → ((zL l3) ∧ ((l3 = 0 → (zP E mX6_asNumber [.inl 0] M (fun r9 M10 => Q r9 M10))) ∧ (¬ l3 = 0 → (zP E mX6_asNumber [.inl 1] M (fun r11 M12 => Q r11 M12))))))))) ∧ (l0 = 4 → Q (-9223372036854775808) M) ∧ (l0 = 5 → Q (-9223372036854775808) M) ∧ (l0 = 6 → Q (-9223372036854775808) M) ∧ (l0 = 7 → Q (-9223372036854775808) M) ∧ (l0 = 8 → Q (-9223372036854775808) M) ∧ (l0 = 9 → Q (-9223372036854775808) M) ∧ (l0 = 10 → Q (-9223372036854775808) M) ∧ (l0 = 11 → Q (-9223372036854775808) M) ∧ (l0 = 12 → Q (-9223372036854775808) M) ∧ (l0 = 13 → Q (-9223372036854775808) M) ∧ (l0 = 14 → Q (-9223372036854775808) M) ∧ (l0 = 15 → Q (-9223372036854775808) M) ∧ (l0 = 16 → Q (-9223372036854775808) M) ∧ (l0 = 17 → Q (-9223372036854775808) M) ∧ (l0 = 18 → Q (-9223372036854775808) M) ∧ (l0 = 19 → Q (-9223372036854775808) M) ∧ (l0 = 20 → Q (-9223372036854775808) M) ∧ (l0 = 21 → Q (l1 + l3) M) ∧ (l0 = 22 → Q (l1 - l3) M) ∧ (l0 = 23 → (zP E mX6_product [.inr (.inl l1), .inr (.inl l3)] M (fun r13 M14 => Q r13 M14))) ∧ (l0 = 24 → ((zL l3) ∧ ((¬ l3 = 0 → (zL l1 ∧ zL l3 ∧ l3 ≠ 0) ∧ Q (Int.tdiv l1 l3) M) ∧ (l3 = 0 → Q (-9223372036854775808) M)))) ∧ (l0 = 25 → ((zL l1 ∧ zL l3) ∧ ((l3 ≤ l1 → (zP E mX6_asNumber [.inl 0] M (fun r15 M16 => Q r15 M16))) ∧ (l1 < l3 → (zP E mX6_asNumber [.inl 1] M (fun r17 M18 => Q r17 M18)))))) ∧ (l0 = 26 → ((zL l1 ∧ zL l3) ∧ ((l3 < l1 → (zP E mX6_asNumber [.inl 0] M (fun r19 M20 => Q r19 M20))) ∧ (l1 ≤ l3 → (zP E mX6_asNumber [.inl 1] M (fun r21 M22 => Q r21 M22)))))) ∧ (l0 = 27 → ((zL l1 ∧ zL l3) ∧ ((¬ l1 = l3 → (zP E mX6_asNumber [.inl 0] M (fun r23 M24 => Q r23 M24))) ∧ (l1 = l3 → (zP E mX6_asNumber [.inl 1] M (fun r25 M26 => Q r25 M26)))))) ∧ (l0 = 28 → ((zL l1 ∧ zL l3) ∧ ((l1 = l3 → (zP E mX6_asNumber [.inl 0] M (fun r27 M28 => Q r27 M28))) ∧ (¬ l1 = l3 → (zP E mX6_asNumber [.inl 1] M (fun r29 M30 => Q r29 M30)))))) ∧ (l0 = 29 → ((zL l1 ∧ zL l3) ∧ ((l1 < l3 → (zP E mX6_asNumber [.inl 0] M (fun r31 M32 => Q r31 M32))) ∧ (l3 ≤ l1 → (zP E mX6_asNumber [.inl 1] M (fun r33 M34 => Q r33 M34)))))) ∧ (l0 = 30 → ((zL l1 ∧ zL l3) ∧ ((l1 ≤ l3 → (zP E mX6_asNumber [.inl 0] M (fun r35 M36 => Q r35 M36))) ∧ (l3 < l1 → (zP E mX6_asNumber [.inl 1] M (fun r37 M38 => Q r37 M38))))))))
    : zP E mX6_join [.inl l0, .inr (.inl l1), .inr (.inl l3)] M Q := by
  refine zP_of (by decide +kernel) rfl (Nat.le_of_ble_eq_true rfl) ?_
  show zA E zNN (0, 0) mX6_join 0 [(0, .inl l0), (1, .inr (.inl l1)), (3, .inr (.inl l3))] [] M (zQ Q)
  refine zr_iload_n (pc' := 1) (i := 0) dX6_join_0 rfl rfl rfl ?_
  by_cases hsw : l0 < 2 ∨ 30 < l0
  · refine zr_tableOut (tgt := 294) dX6_join_1 h.1 hsw rfl ?_
    have h := h.2.1 hsw
    refine zr_ldc2 (pc' := 297) (x := -9223372036854775808) dX6_join_294 rfl ci_X6_52 ?_
    exact zr_lreturn dX6_join_297 rfl (Nat.le_refl _) (Nat.le_refl _) (And.intro rfl h)
  · have hsx : l0 = 2 ∨ l0 = 3 ∨ l0 = 4 ∨ l0 = 5 ∨ l0 = 6 ∨ l0 = 7 ∨ l0 = 8 ∨ l0 = 9 ∨ l0 = 10 ∨ l0 = 11 ∨ l0 = 12 ∨ l0 = 13 ∨ l0 = 14 ∨ l0 = 15 ∨ l0 = 16 ∨ l0 = 17 ∨ l0 = 18 ∨ l0 = 19 ∨ l0 = 20 ∨ l0 = 21 ∨ l0 = 22 ∨ l0 = 23 ∨ l0 = 24 ∨ l0 = 25 ∨ l0 = 26 ∨ l0 = 27 ∨ l0 = 28 ∨ l0 = 29 ∨ l0 = 30 := by omega
    rcases hsx with hsx | hsx | hsx | hsx | hsx | hsx | hsx | hsx | hsx | hsx | hsx | hsx | hsx | hsx | hsx | hsx | hsx | hsx | hsx | hsx | hsx | hsx | hsx | hsx | hsx | hsx | hsx | hsx | hsx
    · refine zr_tableIn (off := 131) (tgt := 132) dX6_join_1 h.1 (by omega) (by omega) (by rw [hsx]; rfl) rfl ?_
      have h := h.2.2.1 hsx
      refine zr_lload_n (pc' := 133) (i := 1) dX6_join_132 rfl rfl rfl ?_
      refine zr_lconst (pc' := 134) (x := 0) dX6_join_133 rfl rfl ?_
      refine zn_lif_ne (tgt := 144) (pc1 := 135) (pc' := 138) dX6_join_134 rfl dX6_join_135 rfl rfl h.1 (zLd rfl) (fun hc => ?_) (fun hc => ?_)
      · have h := h.2.1 hc
        refine zr_iconst (pc' := 145) dX6_join_144 rfl ?_
        refine zr_goto (pc' := 149) dX6_join_145 rfl ?_
        refine zn_callS (pc' := 152) (args := [.inl 1]) (st := []) (st' := fun r1 => [.inr (.inl r1)]) dX6_join_149 rfl cs_X6_80 ⟨rfl, rfl, by decide, by decide⟩ rfl rfl rfl (Nat.le_of_ble_eq_true rfl) (fun _ => rfl) h ?_
        intro r1 M2 h
        exact zr_lreturn dX6_join_152 rfl (Nat.le_refl _) (Nat.le_refl _) (And.intro rfl h)
      · have h := h.2.2 hc
        refine zr_lload_n (pc' := 139) (i := 3) dX6_join_138 rfl rfl rfl ?_
        refine zr_lconst (pc' := 140) (x := 0) dX6_join_139 rfl rfl ?_
        refine zn_lif_eq (tgt := 148) (pc1 := 141) (pc' := 144) dX6_join_140 rfl dX6_join_141 rfl rfl h.1 (zLd rfl) (fun hc => ?_) (fun hc => ?_)
        · have h := h.2.1 hc
          refine zr_iconst (pc' := 149) dX6_join_148 rfl ?_
          refine zn_callS (pc' := 152) (args := [.inl 0]) (st := []) (st' := fun r3 => [.inr (.inl r3)]) dX6_join_149 rfl cs_X6_80 ⟨rfl, rfl, by decide, by decide⟩ rfl rfl rfl (Nat.le_of_ble_eq_true rfl) (fun _ => rfl) h ?_
          intro r3 M4 h
          exact zr_lreturn dX6_join_152 rfl (Nat.le_refl _) (Nat.le_refl _) (And.intro rfl h)
        · have h := h.2.2 hc
          refine zr_iconst (pc' := 145) dX6_join_144 rfl ?_
          refine zr_goto (pc' := 149) dX6_join_145 rfl ?_
          refine zn_callS (pc' := 152) (args := [.inl 1]) (st := []) (st' := fun r5 => [.inr (.inl r5)]) dX6_join_149 rfl cs_X6_80 ⟨rfl, rfl, by decide, by decide⟩ rfl rfl rfl (Nat.le_of_ble_eq_true rfl) (fun _ => rfl) h ?_
          intro r5 M6 h
          exact zr_lreturn dX6_join_152 rfl (Nat.le_refl _) (Nat.le_refl _) (And.intro rfl h)
    · refine zr_tableIn (off := 152) (tgt := 153) dX6_join_1 h.1 (by omega) (by omega) (by rw [hsx]; rfl) rfl ?_
      have h := h.2.2.2.1 hsx
      refine zr_lload_n (pc' := 154) (i := 1) dX6_join_153 rfl rfl rfl ?_
      refine zr_lconst (pc' := 155) (x := 0) dX6_join_154 rfl rfl ?_
      refine zn_lif_eq (tgt := 169) (pc1 := 156) (pc' := 159) dX6_join_155 rfl dX6_join_156 rfl rfl h.1 (zLd rfl) (fun hc => ?_) (fun hc => ?_)
      · have h := h.2.1 hc
        refine zr_iconst (pc' := 170) dX6_join_169 rfl ?_
        refine zn_callS (pc' := 173) (args := [.inl 0]) (st := []) (st' := fun r7 => [.inr (.inl r7)]) dX6_join_170 rfl cs_X6_80 ⟨rfl, rfl, by decide, by decide⟩ rfl rfl rfl (Nat.le_of_ble_eq_true rfl) (fun _ => rfl) h ?_
        intro r7 M8 h
        exact zr_lreturn dX6_join_173 rfl (Nat.le_refl _) (Nat.le_refl _) (And.intro rfl h)
      · have h := h.2.2 hc
        refine zr_lload_n (pc' := 160) (i := 3) dX6_join_159 rfl rfl rfl ?_
        refine zr_lconst (pc' := 161) (x := 0) dX6_join_160 rfl rfl ?_
        refine zn_lif_eq (tgt := 169) (pc1 := 162) (pc' := 165) dX6_join_161 rfl dX6_join_162 rfl rfl h.1 (zLd rfl) (fun hc => ?_) (fun hc => ?_)
        · have h := h.2.1 hc
          refine zr_iconst (pc' := 170) dX6_join_169 rfl ?_
          refine zn_callS (pc' := 173) (args := [.inl 0]) (st := []) (st' := fun r9 => [.inr (.inl r9)]) dX6_join_170 rfl cs_X6_80 ⟨rfl, rfl, by decide, by decide⟩ rfl rfl rfl (Nat.le_of_ble_eq_true rfl) (fun _ => rfl) h ?_
          intro r9 M10 h
          exact zr_lreturn dX6_join_173 rfl (Nat.le_refl _) (Nat.le_refl _) (And.intro rfl h)
        · have h := h.2.2 hc
          refine zr_iconst (pc' := 166) dX6_join_165 rfl ?_
          refine zr_goto (pc' := 170) dX6_join_166 rfl ?_
          refine zn_callS (pc' := 173) (args := [.inl 1]) (st := []) (st' := fun r11 => [.inr (.inl r11)]) dX6_join_170 rfl cs_X6_80 ⟨rfl, rfl, by decide, by decide⟩ rfl rfl rfl (Nat.le_of_ble_eq_true rfl) (fun _ => rfl) h ?_
          intro r11 M12 h
          exact zr_lreturn dX6_join_173 rfl (Nat.le_refl _) (Nat.le_refl _) (And.intro rfl h)
    · refine zr_tableIn (off := 293) (tgt := 294) dX6_join_1 h.1 (by omega) (by omega) (by rw [hsx]; rfl) rfl ?_
      have h := h.2.2.2.2.1 hsx
      refine zr_ldc2 (pc' := 297) (x := -9223372036854775808) dX6_join_294 rfl ci_X6_52 ?_
      exact zr_lreturn dX6_join_297 rfl (Nat.le_refl _) (Nat.le_refl _) (And.intro rfl h)
    · refine zr_tableIn (off := 293) (tgt := 294) dX6_join_1 h.1 (by omega) (by omega) (by rw [hsx]; rfl) rfl ?_
      have h := h.2.2.2.2.2.1 hsx
      refine zr_ldc2 (pc' := 297) (x := -9223372036854775808) dX6_join_294 rfl ci_X6_52 ?_
      exact zr_lreturn dX6_join_297 rfl (Nat.le_refl _) (Nat.le_refl _) (And.intro rfl h)
    · refine zr_tableIn (off := 293) (tgt := 294) dX6_join_1 h.1 (by omega) (by omega) (by rw [hsx]; rfl) rfl ?_
      have h := h.2.2.2.2.2.2.1 hsx
      refine zr_ldc2 (pc' := 297) (x := -9223372036854775808) dX6_join_294 rfl ci_X6_52 ?_
      exact zr_lreturn dX6_join_297 rfl (Nat.le_refl _) (Nat.le_refl _) (And.intro rfl h)
    · refine zr_tableIn (off := 293) (tgt := 294) dX6_join_1 h.1 (by omega) (by omega) (by rw [hsx]; rfl) rfl ?_
      have h := h.2.2.2.2.2.2.2.1 hsx
      refine zr_ldc2 (pc' := 297) (x := -9223372036854775808) dX6_join_294 rfl ci_X6_52 ?_
      exact zr_lreturn dX6_join_297 rfl (Nat.le_refl _) (Nat.le_refl _) (And.intro rfl h)
    · refine zr_tableIn (off := 293) (tgt := 294) dX6_join_1 h.1 (by omega) (by omega) (by rw [hsx]; rfl) rfl ?_
      have h := h.2.2.2.2.2.2.2.2.1 hsx
      refine zr_ldc2 (pc' := 297) (x := -9223372036854775808) dX6_join_294 rfl ci_X6_52 ?_
      exact zr_lreturn dX6_join_297 rfl (Nat.le_refl _) (Nat.le_refl _) (And.intro rfl h)
    · refine zr_tableIn (off := 293) (tgt := 294) dX6_join_1 h.1 (by omega) (by omega) (by rw [hsx]; rfl) rfl ?_
      have h := h.2.2.2.2.2.2.2.2.2.1 hsx
      refine zr_ldc2 (pc' := 297) (x := -9223372036854775808) dX6_join_294 rfl ci_X6_52 ?_
      exact zr_lreturn dX6_join_297 rfl (Nat.le_refl _) (Nat.le_refl _) (And.intro rfl h)
    · refine zr_tableIn (off := 293) (tgt := 294) dX6_join_1 h.1 (by omega) (by omega) (by rw [hsx]; rfl) rfl ?_
      have h := h.2.2.2.2.2.2.2.2.2.2.1 hsx
      refine zr_ldc2 (pc' := 297) (x := -9223372036854775808) dX6_join_294 rfl ci_X6_52 ?_
      exact zr_lreturn dX6_join_297 rfl (Nat.le_refl _) (Nat.le_refl _) (And.intro rfl h)
    · refine zr_tableIn (off := 293) (tgt := 294) dX6_join_1 h.1 (by omega) (by omega) (by rw [hsx]; rfl) rfl ?_
      have h := h.2.2.2.2.2.2.2.2.2.2.2.1 hsx
      refine zr_ldc2 (pc' := 297) (x := -9223372036854775808) dX6_join_294 rfl ci_X6_52 ?_
      exact zr_lreturn dX6_join_297 rfl (Nat.le_refl _) (Nat.le_refl _) (And.intro rfl h)
    · refine zr_tableIn (off := 293) (tgt := 294) dX6_join_1 h.1 (by omega) (by omega) (by rw [hsx]; rfl) rfl ?_
      have h := h.2.2.2.2.2.2.2.2.2.2.2.2.1 hsx
      refine zr_ldc2 (pc' := 297) (x := -9223372036854775808) dX6_join_294 rfl ci_X6_52 ?_
      exact zr_lreturn dX6_join_297 rfl (Nat.le_refl _) (Nat.le_refl _) (And.intro rfl h)
    · refine zr_tableIn (off := 293) (tgt := 294) dX6_join_1 h.1 (by omega) (by omega) (by rw [hsx]; rfl) rfl ?_
      have h := h.2.2.2.2.2.2.2.2.2.2.2.2.2.1 hsx
      refine zr_ldc2 (pc' := 297) (x := -9223372036854775808) dX6_join_294 rfl ci_X6_52 ?_
      exact zr_lreturn dX6_join_297 rfl (Nat.le_refl _) (Nat.le_refl _) (And.intro rfl h)
    · refine zr_tableIn (off := 293) (tgt := 294) dX6_join_1 h.1 (by omega) (by omega) (by rw [hsx]; rfl) rfl ?_
      have h := h.2.2.2.2.2.2.2.2.2.2.2.2.2.2.1 hsx
      refine zr_ldc2 (pc' := 297) (x := -9223372036854775808) dX6_join_294 rfl ci_X6_52 ?_
      exact zr_lreturn dX6_join_297 rfl (Nat.le_refl _) (Nat.le_refl _) (And.intro rfl h)
    · refine zr_tableIn (off := 293) (tgt := 294) dX6_join_1 h.1 (by omega) (by omega) (by rw [hsx]; rfl) rfl ?_
      have h := h.2.2.2.2.2.2.2.2.2.2.2.2.2.2.2.1 hsx
      refine zr_ldc2 (pc' := 297) (x := -9223372036854775808) dX6_join_294 rfl ci_X6_52 ?_
      exact zr_lreturn dX6_join_297 rfl (Nat.le_refl _) (Nat.le_refl _) (And.intro rfl h)
    · refine zr_tableIn (off := 293) (tgt := 294) dX6_join_1 h.1 (by omega) (by omega) (by rw [hsx]; rfl) rfl ?_
      have h := h.2.2.2.2.2.2.2.2.2.2.2.2.2.2.2.2.1 hsx
      refine zr_ldc2 (pc' := 297) (x := -9223372036854775808) dX6_join_294 rfl ci_X6_52 ?_
      exact zr_lreturn dX6_join_297 rfl (Nat.le_refl _) (Nat.le_refl _) (And.intro rfl h)
    · refine zr_tableIn (off := 293) (tgt := 294) dX6_join_1 h.1 (by omega) (by omega) (by rw [hsx]; rfl) rfl ?_
      have h := h.2.2.2.2.2.2.2.2.2.2.2.2.2.2.2.2.2.1 hsx
      refine zr_ldc2 (pc' := 297) (x := -9223372036854775808) dX6_join_294 rfl ci_X6_52 ?_
      exact zr_lreturn dX6_join_297 rfl (Nat.le_refl _) (Nat.le_refl _) (And.intro rfl h)
    · refine zr_tableIn (off := 293) (tgt := 294) dX6_join_1 h.1 (by omega) (by omega) (by rw [hsx]; rfl) rfl ?_
      have h := h.2.2.2.2.2.2.2.2.2.2.2.2.2.2.2.2.2.2.1 hsx
      refine zr_ldc2 (pc' := 297) (x := -9223372036854775808) dX6_join_294 rfl ci_X6_52 ?_
      exact zr_lreturn dX6_join_297 rfl (Nat.le_refl _) (Nat.le_refl _) (And.intro rfl h)
    · refine zr_tableIn (off := 293) (tgt := 294) dX6_join_1 h.1 (by omega) (by omega) (by rw [hsx]; rfl) rfl ?_
      have h := h.2.2.2.2.2.2.2.2.2.2.2.2.2.2.2.2.2.2.2.1 hsx
      refine zr_ldc2 (pc' := 297) (x := -9223372036854775808) dX6_join_294 rfl ci_X6_52 ?_
      exact zr_lreturn dX6_join_297 rfl (Nat.le_refl _) (Nat.le_refl _) (And.intro rfl h)
    · refine zr_tableIn (off := 293) (tgt := 294) dX6_join_1 h.1 (by omega) (by omega) (by rw [hsx]; rfl) rfl ?_
      have h := h.2.2.2.2.2.2.2.2.2.2.2.2.2.2.2.2.2.2.2.2.1 hsx
      refine zr_ldc2 (pc' := 297) (x := -9223372036854775808) dX6_join_294 rfl ci_X6_52 ?_
      exact zr_lreturn dX6_join_297 rfl (Nat.le_refl _) (Nat.le_refl _) (And.intro rfl h)
    · refine zr_tableIn (off := 263) (tgt := 264) dX6_join_1 h.1 (by omega) (by omega) (by rw [hsx]; rfl) rfl ?_
      have h := h.2.2.2.2.2.2.2.2.2.2.2.2.2.2.2.2.2.2.2.2.2.1 hsx
      refine zr_lload_n (pc' := 265) (i := 1) dX6_join_264 rfl rfl rfl ?_
      refine zr_lload_n (pc' := 266) (i := 3) dX6_join_265 rfl rfl rfl ?_
      refine zr_ladd (pc' := 267) dX6_join_266 rfl ?_
      exact zr_lreturn dX6_join_267 rfl (Nat.le_refl _) (Nat.le_refl _) (And.intro rfl h)
    · refine zr_tableIn (off := 267) (tgt := 268) dX6_join_1 h.1 (by omega) (by omega) (by rw [hsx]; rfl) rfl ?_
      have h := h.2.2.2.2.2.2.2.2.2.2.2.2.2.2.2.2.2.2.2.2.2.2.1 hsx
      refine zr_lload_n (pc' := 269) (i := 1) dX6_join_268 rfl rfl rfl ?_
      refine zr_lload_n (pc' := 270) (i := 3) dX6_join_269 rfl rfl rfl ?_
      refine zr_lsub (pc' := 271) dX6_join_270 rfl ?_
      exact zr_lreturn dX6_join_271 rfl (Nat.le_refl _) (Nat.le_refl _) (And.intro rfl h)
    · refine zr_tableIn (off := 271) (tgt := 272) dX6_join_1 h.1 (by omega) (by omega) (by rw [hsx]; rfl) rfl ?_
      have h := h.2.2.2.2.2.2.2.2.2.2.2.2.2.2.2.2.2.2.2.2.2.2.2.1 hsx
      refine zr_lload_n (pc' := 273) (i := 1) dX6_join_272 rfl rfl rfl ?_
      refine zr_lload_n (pc' := 274) (i := 3) dX6_join_273 rfl rfl rfl ?_
      refine zn_callS (pc' := 277) (args := [.inr (.inl l1), .inr (.inl l3)]) (st := []) (st' := fun r13 => [.inr (.inl r13)]) dX6_join_274 rfl cs_X6_88 ⟨rfl, rfl, by decide, by decide⟩ rfl rfl rfl (Nat.le_of_ble_eq_true rfl) (fun _ => rfl) h ?_
      intro r13 M14 h
      exact zr_lreturn dX6_join_277 rfl (Nat.le_refl _) (Nat.le_refl _) (And.intro rfl h)
    · refine zr_tableIn (off := 277) (tgt := 278) dX6_join_1 h.1 (by omega) (by omega) (by rw [hsx]; rfl) rfl ?_
      have h := h.2.2.2.2.2.2.2.2.2.2.2.2.2.2.2.2.2.2.2.2.2.2.2.2.1 hsx
      refine zr_lload_n (pc' := 279) (i := 3) dX6_join_278 rfl rfl rfl ?_
      refine zr_lconst (pc' := 280) (x := 0) dX6_join_279 rfl rfl ?_
      refine zn_lif_ne (tgt := 290) (pc1 := 281) (pc' := 284) dX6_join_280 rfl dX6_join_281 rfl rfl h.1 (zLd rfl) (fun hc => ?_) (fun hc => ?_)
      · have h := h.2.1 hc
        refine zr_lload_n (pc' := 291) (i := 1) dX6_join_290 rfl rfl rfl ?_
        refine zr_lload_n (pc' := 292) (i := 3) dX6_join_291 rfl rfl rfl ?_
        refine zr_ldiv (pc' := 293) dX6_join_292 rfl h.1.1 h.1.2.1 h.1.2.2 ?_
        have h := h.2
        exact zr_lreturn dX6_join_293 rfl (Nat.le_refl _) (Nat.le_refl _) (And.intro rfl h)
      · have h := h.2.2 hc
        refine zr_ldc2 (pc' := 287) (x := -9223372036854775808) dX6_join_284 rfl ci_X6_52 ?_
        refine zr_goto (pc' := 293) dX6_join_287 rfl ?_
        exact zr_lreturn dX6_join_293 rfl (Nat.le_refl _) (Nat.le_refl _) (And.intro rfl h)
    · refine zr_tableIn (off := 173) (tgt := 174) dX6_join_1 h.1 (by omega) (by omega) (by rw [hsx]; rfl) rfl ?_
      have h := h.2.2.2.2.2.2.2.2.2.2.2.2.2.2.2.2.2.2.2.2.2.2.2.2.2.1 hsx
      refine zr_lload_n (pc' := 175) (i := 1) dX6_join_174 rfl rfl rfl ?_
      refine zr_lload_n (pc' := 176) (i := 3) dX6_join_175 rfl rfl rfl ?_
      refine zn_lif_ge (tgt := 184) (pc1 := 177) (pc' := 180) dX6_join_176 rfl dX6_join_177 rfl rfl h.1.1 h.1.2 (fun hc => ?_) (fun hc => ?_)
      · have h := h.2.1 hc
        refine zr_iconst (pc' := 185) dX6_join_184 rfl ?_
        refine zn_callS (pc' := 188) (args := [.inl 0]) (st := []) (st' := fun r15 => [.inr (.inl r15)]) dX6_join_185 rfl cs_X6_80 ⟨rfl, rfl, by decide, by decide⟩ rfl rfl rfl (Nat.le_of_ble_eq_true rfl) (fun _ => rfl) h ?_
        intro r15 M16 h
        exact zr_lreturn dX6_join_188 rfl (Nat.le_refl _) (Nat.le_refl _) (And.intro rfl h)
      · have h := h.2.2 hc
        refine zr_iconst (pc' := 181) dX6_join_180 rfl ?_
        refine zr_goto (pc' := 185) dX6_join_181 rfl ?_
        refine zn_callS (pc' := 188) (args := [.inl 1]) (st := []) (st' := fun r17 => [.inr (.inl r17)]) dX6_join_185 rfl cs_X6_80 ⟨rfl, rfl, by decide, by decide⟩ rfl rfl rfl (Nat.le_of_ble_eq_true rfl) (fun _ => rfl) h ?_
        intro r17 M18 h
        exact zr_lreturn dX6_join_188 rfl (Nat.le_refl _) (Nat.le_refl _) (And.intro rfl h)
    · refine zr_tableIn (off := 188) (tgt := 189) dX6_join_1 h.1 (by omega) (by omega) (by rw [hsx]; rfl) rfl ?_
      have h := h.2.2.2.2.2.2.2.2.2.2.2.2.2.2.2.2.2.2.2.2.2.2.2.2.2.2.1 hsx
      refine zr_lload_n (pc' := 190) (i := 1) dX6_join_189 rfl rfl rfl ?_
      refine zr_lload_n (pc' := 191) (i := 3) dX6_join_190 rfl rfl rfl ?_
      refine zn_lif_gt (tgt := 199) (pc1 := 192) (pc' := 195) dX6_join_191 rfl dX6_join_192 rfl rfl h.1.1 h.1.2 (fun hc => ?_) (fun hc => ?_)
      · have h := h.2.1 hc
        refine zr_iconst (pc' := 200) dX6_join_199 rfl ?_
        refine zn_callS (pc' := 203) (args := [.inl 0]) (st := []) (st' := fun r19 => [.inr (.inl r19)]) dX6_join_200 rfl cs_X6_80 ⟨rfl, rfl, by decide, by decide⟩ rfl rfl rfl (Nat.le_of_ble_eq_true rfl) (fun _ => rfl) h ?_
        intro r19 M20 h
        exact zr_lreturn dX6_join_203 rfl (Nat.le_refl _) (Nat.le_refl _) (And.intro rfl h)
      · have h := h.2.2 hc
        refine zr_iconst (pc' := 196) dX6_join_195 rfl ?_
        refine zr_goto (pc' := 200) dX6_join_196 rfl ?_
        refine zn_callS (pc' := 203) (args := [.inl 1]) (st := []) (st' := fun r21 => [.inr (.inl r21)]) dX6_join_200 rfl cs_X6_80 ⟨rfl, rfl, by decide, by decide⟩ rfl rfl rfl (Nat.le_of_ble_eq_true rfl) (fun _ => rfl) h ?_
        intro r21 M22 h
        exact zr_lreturn dX6_join_203 rfl (Nat.le_refl _) (Nat.le_refl _) (And.intro rfl h)
    · refine zr_tableIn (off := 203) (tgt := 204) dX6_join_1 h.1 (by omega) (by omega) (by rw [hsx]; rfl) rfl ?_
      have h := h.2.2.2.2.2.2.2.2.2.2.2.2.2.2.2.2.2.2.2.2.2.2.2.2.2.2.2.1 hsx
      refine zr_lload_n (pc' := 205) (i := 1) dX6_join_204 rfl rfl rfl ?_
      refine zr_lload_n (pc' := 206) (i := 3) dX6_join_205 rfl rfl rfl ?_
      refine zn_lif_ne (tgt := 214) (pc1 := 207) (pc' := 210) dX6_join_206 rfl dX6_join_207 rfl rfl h.1.1 h.1.2 (fun hc => ?_) (fun hc => ?_)
      · have h := h.2.1 hc
        refine zr_iconst (pc' := 215) dX6_join_214 rfl ?_
        refine zn_callS (pc' := 218) (args := [.inl 0]) (st := []) (st' := fun r23 => [.inr (.inl r23)]) dX6_join_215 rfl cs_X6_80 ⟨rfl, rfl, by decide, by decide⟩ rfl rfl rfl (Nat.le_of_ble_eq_true rfl) (fun _ => rfl) h ?_
        intro r23 M24 h
        exact zr_lreturn dX6_join_218 rfl (Nat.le_refl _) (Nat.le_refl _) (And.intro rfl h)
      · have h := h.2.2 hc
        refine zr_iconst (pc' := 211) dX6_join_210 rfl ?_
        refine zr_goto (pc' := 215) dX6_join_211 rfl ?_
        refine zn_callS (pc' := 218) (args := [.inl 1]) (st := []) (st' := fun r25 => [.inr (.inl r25)]) dX6_join_215 rfl cs_X6_80 ⟨rfl, rfl, by decide, by decide⟩ rfl rfl rfl (Nat.le_of_ble_eq_true rfl) (fun _ => rfl) h ?_
        intro r25 M26 h
        exact zr_lreturn dX6_join_218 rfl (Nat.le_refl _) (Nat.le_refl _) (And.intro rfl h)
    · refine zr_tableIn (off := 218) (tgt := 219) dX6_join_1 h.1 (by omega) (by omega) (by rw [hsx]; rfl) rfl ?_
      have h := h.2.2.2.2.2.2.2.2.2.2.2.2.2.2.2.2.2.2.2.2.2.2.2.2.2.2.2.2.1 hsx
      refine zr_lload_n (pc' := 220) (i := 1) dX6_join_219 rfl rfl rfl ?_
      refine zr_lload_n (pc' := 221) (i := 3) dX6_join_220 rfl rfl rfl ?_
      refine zn_lif_eq (tgt := 229) (pc1 := 222) (pc' := 225) dX6_join_221 rfl dX6_join_222 rfl rfl h.1.1 h.1.2 (fun hc => ?_) (fun hc => ?_)
      · have h := h.2.1 hc
        refine zr_iconst (pc' := 230) dX6_join_229 rfl ?_
        refine zn_callS (pc' := 233) (args := [.inl 0]) (st := []) (st' := fun r27 => [.inr (.inl r27)]) dX6_join_230 rfl cs_X6_80 ⟨rfl, rfl, by decide, by decide⟩ rfl rfl rfl (Nat.le_of_ble_eq_true rfl) (fun _ => rfl) h ?_
        intro r27 M28 h
        exact zr_lreturn dX6_join_233 rfl (Nat.le_refl _) (Nat.le_refl _) (And.intro rfl h)
      · have h := h.2.2 hc
        refine zr_iconst (pc' := 226) dX6_join_225 rfl ?_
        refine zr_goto (pc' := 230) dX6_join_226 rfl ?_
        refine zn_callS (pc' := 233) (args := [.inl 1]) (st := []) (st' := fun r29 => [.inr (.inl r29)]) dX6_join_230 rfl cs_X6_80 ⟨rfl, rfl, by decide, by decide⟩ rfl rfl rfl (Nat.le_of_ble_eq_true rfl) (fun _ => rfl) h ?_
        intro r29 M30 h
        exact zr_lreturn dX6_join_233 rfl (Nat.le_refl _) (Nat.le_refl _) (And.intro rfl h)
    · refine zr_tableIn (off := 233) (tgt := 234) dX6_join_1 h.1 (by omega) (by omega) (by rw [hsx]; rfl) rfl ?_
      have h := h.2.2.2.2.2.2.2.2.2.2.2.2.2.2.2.2.2.2.2.2.2.2.2.2.2.2.2.2.2.1 hsx
      refine zr_lload_n (pc' := 235) (i := 1) dX6_join_234 rfl rfl rfl ?_
      refine zr_lload_n (pc' := 236) (i := 3) dX6_join_235 rfl rfl rfl ?_
      refine zn_lif_lt (tgt := 244) (pc1 := 237) (pc' := 240) dX6_join_236 rfl dX6_join_237 rfl rfl h.1.1 h.1.2 (fun hc => ?_) (fun hc => ?_)
      · have h := h.2.1 hc
        refine zr_iconst (pc' := 245) dX6_join_244 rfl ?_
        refine zn_callS (pc' := 248) (args := [.inl 0]) (st := []) (st' := fun r31 => [.inr (.inl r31)]) dX6_join_245 rfl cs_X6_80 ⟨rfl, rfl, by decide, by decide⟩ rfl rfl rfl (Nat.le_of_ble_eq_true rfl) (fun _ => rfl) h ?_
        intro r31 M32 h
        exact zr_lreturn dX6_join_248 rfl (Nat.le_refl _) (Nat.le_refl _) (And.intro rfl h)
      · have h := h.2.2 hc
        refine zr_iconst (pc' := 241) dX6_join_240 rfl ?_
        refine zr_goto (pc' := 245) dX6_join_241 rfl ?_
        refine zn_callS (pc' := 248) (args := [.inl 1]) (st := []) (st' := fun r33 => [.inr (.inl r33)]) dX6_join_245 rfl cs_X6_80 ⟨rfl, rfl, by decide, by decide⟩ rfl rfl rfl (Nat.le_of_ble_eq_true rfl) (fun _ => rfl) h ?_
        intro r33 M34 h
        exact zr_lreturn dX6_join_248 rfl (Nat.le_refl _) (Nat.le_refl _) (And.intro rfl h)
    · refine zr_tableIn (off := 248) (tgt := 249) dX6_join_1 h.1 (by omega) (by omega) (by rw [hsx]; rfl) rfl ?_
      have h := h.2.2.2.2.2.2.2.2.2.2.2.2.2.2.2.2.2.2.2.2.2.2.2.2.2.2.2.2.2.2 hsx
      refine zr_lload_n (pc' := 250) (i := 1) dX6_join_249 rfl rfl rfl ?_
      refine zr_lload_n (pc' := 251) (i := 3) dX6_join_250 rfl rfl rfl ?_
      refine zn_lif_le (tgt := 259) (pc1 := 252) (pc' := 255) dX6_join_251 rfl dX6_join_252 rfl rfl h.1.1 h.1.2 (fun hc => ?_) (fun hc => ?_)
      · have h := h.2.1 hc
        refine zr_iconst (pc' := 260) dX6_join_259 rfl ?_
        refine zn_callS (pc' := 263) (args := [.inl 0]) (st := []) (st' := fun r35 => [.inr (.inl r35)]) dX6_join_260 rfl cs_X6_80 ⟨rfl, rfl, by decide, by decide⟩ rfl rfl rfl (Nat.le_of_ble_eq_true rfl) (fun _ => rfl) h ?_
        intro r35 M36 h
        exact zr_lreturn dX6_join_263 rfl (Nat.le_refl _) (Nat.le_refl _) (And.intro rfl h)
      · have h := h.2.2 hc
        refine zr_iconst (pc' := 256) dX6_join_255 rfl ?_
        refine zr_goto (pc' := 260) dX6_join_256 rfl ?_
        refine zn_callS (pc' := 263) (args := [.inl 1]) (st := []) (st' := fun r37 => [.inr (.inl r37)]) dX6_join_260 rfl cs_X6_80 ⟨rfl, rfl, by decide, by decide⟩ rfl rfl rfl (Nat.le_of_ble_eq_true rfl) (fun _ => rfl) h ?_
        intro r37 M38 h
        exact zr_lreturn dX6_join_263 rfl (Nat.le_refl _) (Nat.le_refl _) (And.intro rfl h)
set_option maxRecDepth 20000 in
theorem vcX6_asNumber {E : zE} {M : zM} {Q : Int → zM → Prop} (l0 : Int)
    (h : ((zR l0) ∧ ((l0 = 0 → Q 0 M) ∧ (¬ l0 = 0 → Q 1 M))))
    : zP E mX6_asNumber [.inl l0] M Q := by
  refine zP_of (by decide +kernel) rfl (Nat.le_of_ble_eq_true rfl) ?_
  show zA E zNN (0, 0) mX6_asNumber 0 [(0, .inl l0)] [] M (zQ Q)
  refine zr_iload_n (pc' := 1) (i := 0) dX6_asNumber_0 rfl rfl rfl ?_
  refine zr_if_eq (tgt := 8) (pc' := 4) dX6_asNumber_1 rfl rfl h.1 (fun hc => ?_) (fun hc => ?_)
  · have h := h.2.1 hc
    refine zr_lconst (pc' := 9) (x := 0) dX6_asNumber_8 rfl rfl ?_
    exact zr_lreturn dX6_asNumber_9 rfl (Nat.le_refl _) (Nat.le_refl _) (And.intro rfl h)
  · have h := h.2.2 hc
    refine zr_lconst (pc' := 5) (x := 1) dX6_asNumber_4 rfl rfl ?_
    refine zr_goto (pc' := 9) dX6_asNumber_5 rfl ?_
    exact zr_lreturn dX6_asNumber_9 rfl (Nat.le_refl _) (Nat.le_refl _) (And.intro rfl h)
set_option maxRecDepth 20000 in
theorem vcX6_product {E : zE} {M : zM} {Q : Int → zM → Prop} (l0 l2 : Int)
    (h : ((zL l0) ∧ ((0 ≤ l0 → ((zL l2) ∧ ((0 ≤ l2 → ((zL l0) ∧ ((l0 = 0 → Q (l0 * l2) M) ∧ (¬ l0 = 0 → (zL l0 ∧ l0 ≠ 0) ∧ ((zL l2 ∧ zL (Int.tdiv 1000000000000 l0)) ∧ ((l2 ≤ (Int.tdiv 1000000000000 l0) → Q (l0 * l2) M) ∧ ((Int.tdiv 1000000000000 l0) < l2 → Q (-9223372036854775808) M))))))) ∧ (l2 < 0 → ((zL l0) ∧ ((l0 = 0 → Q (l0 * l2) M) ∧ (¬ l0 = 0 → (zL l0 ∧ l0 ≠ 0) ∧ ((zL (-l2) ∧ zL (Int.tdiv 1000000000000 l0)) ∧ (((-l2) ≤ (Int.tdiv 1000000000000 l0) → Q (l0 * l2) M) ∧ ((Int.tdiv 1000000000000 l0) < (-l2) → Q (-9223372036854775808) M)))))))))) ∧ (l0 < 0 → ((zL l2) ∧ ((0 ≤ l2 → ((zL (-l0)) ∧ (((-l0) = 0 → Q (l0 * l2) M) ∧ (¬ (-l0) = 0 → (zL (-l0) ∧ -l0 ≠ 0) ∧ ((zL l2 ∧ zL (Int.tdiv 1000000000000 (-l0))) ∧ ((l2 ≤ (Int.tdiv 1000000000000 (-l0)) → Q (l0 * l2) M) ∧ ((Int.tdiv 1000000000000 (-l0)) < l2 → Q (-9223372036854775808) M))))))) ∧ (l2 < 0 → ((zL (-l0)) ∧ (((-l0) = 0 → Q (l0 * l2) M) ∧ (¬ (-l0) = 0 → (zL (-l0) ∧ -l0 ≠ 0) ∧ ((zL (-l2) ∧ zL (Int.tdiv 1000000000000 (-l0))) ∧ (((-l2) ≤ (Int.tdiv 1000000000000 (-l0)) → Q (l0 * l2) M) ∧ ((Int.tdiv 1000000000000 (-l0)) < (-l2) → Q (-9223372036854775808) M)))))))))))))
    : zP E mX6_product [.inr (.inl l0), .inr (.inl l2)] M Q := by
  refine zP_of (by decide +kernel) rfl (Nat.le_of_ble_eq_true rfl) ?_
  show zA E zNN (0, 0) mX6_product 0 [(0, .inr (.inl l0)), (2, .inr (.inl l2))] [] M (zQ Q)
  refine zr_lload_n (pc' := 1) (i := 0) dX6_product_0 rfl rfl rfl ?_
  refine zr_lconst (pc' := 2) (x := 0) dX6_product_1 rfl rfl ?_
  refine zn_lif_ge (tgt := 11) (pc1 := 3) (pc' := 6) dX6_product_2 rfl dX6_product_3 rfl rfl h.1 (zLd rfl) (fun hc => ?_) (fun hc => ?_)
  · have h := h.2.1 hc
    refine zr_lload_n (pc' := 12) (i := 0) dX6_product_11 rfl rfl rfl ?_
    refine zr_lstore (pc' := 14) (al' := [(4, .inr (.inl l0)), (0, .inr (.inl l0)), (2, .inr (.inl l2))]) dX6_product_12 rfl (by decide) rfl ?_
    refine zr_lload_n (pc' := 15) (i := 2) dX6_product_14 rfl rfl rfl ?_
    refine zr_lconst (pc' := 16) (x := 0) dX6_product_15 rfl rfl ?_
    refine zn_lif_ge (tgt := 25) (pc1 := 17) (pc' := 20) dX6_product_16 rfl dX6_product_17 rfl rfl h.1 (zLd rfl) (fun hc => ?_) (fun hc => ?_)
    · have h := h.2.1 hc
      refine zr_lload_n (pc' := 26) (i := 2) dX6_product_25 rfl rfl rfl ?_
      refine zr_lstore (pc' := 28) (al' := [(6, .inr (.inl l2)), (4, .inr (.inl l0)), (0, .inr (.inl l0)), (2, .inr (.inl l2))]) dX6_product_26 rfl (by decide) rfl ?_
      refine zr_lload (pc' := 30) dX6_product_28 rfl rfl ?_
      refine zr_lconst (pc' := 31) (x := 0) dX6_product_30 rfl rfl ?_
      refine zn_lif_eq (tgt := 51) (pc1 := 32) (pc' := 35) dX6_product_31 rfl dX6_product_32 rfl rfl h.1 (zLd rfl) (fun hc => ?_) (fun hc => ?_)
      · have h := h.2.1 hc
        refine zr_lload_n (pc' := 52) (i := 0) dX6_product_51 rfl rfl rfl ?_
        refine zr_lload_n (pc' := 53) (i := 2) dX6_product_52 rfl rfl rfl ?_
        refine zr_lmul (pc' := 54) dX6_product_53 rfl ?_
        exact zr_lreturn dX6_product_54 rfl (Nat.le_refl _) (Nat.le_refl _) (And.intro rfl h)
      · have h := h.2.2 hc
        refine zr_lload (pc' := 37) dX6_product_35 rfl rfl ?_
        refine zr_ldc2 (pc' := 40) (x := 1000000000000) dX6_product_37 rfl ci_X6_60 ?_
        refine zr_lload (pc' := 42) dX6_product_40 rfl rfl ?_
        refine zr_ldiv (pc' := 43) dX6_product_42 rfl (zLd rfl) h.1.1 h.1.2 ?_
        have h := h.2
        refine zn_lif_le (tgt := 51) (pc1 := 44) (pc' := 47) dX6_product_43 rfl dX6_product_44 rfl rfl h.1.1 h.1.2 (fun hc => ?_) (fun hc => ?_)
        · have h := h.2.1 hc
          refine zr_lload_n (pc' := 52) (i := 0) dX6_product_51 rfl rfl rfl ?_
          refine zr_lload_n (pc' := 53) (i := 2) dX6_product_52 rfl rfl rfl ?_
          refine zr_lmul (pc' := 54) dX6_product_53 rfl ?_
          exact zr_lreturn dX6_product_54 rfl (Nat.le_refl _) (Nat.le_refl _) (And.intro rfl h)
        · have h := h.2.2 hc
          refine zr_ldc2 (pc' := 50) (x := -9223372036854775808) dX6_product_47 rfl ci_X6_52 ?_
          exact zr_lreturn dX6_product_50 rfl (Nat.le_refl _) (Nat.le_refl _) (And.intro rfl h)
    · have h := h.2.2 hc
      refine zr_lload_n (pc' := 21) (i := 2) dX6_product_20 rfl rfl rfl ?_
      refine zr_lneg (pc' := 22) dX6_product_21 rfl ?_
      refine zr_goto (pc' := 26) dX6_product_22 rfl ?_
      refine zr_lstore (pc' := 28) (al' := [(6, .inr (.inl (-l2))), (4, .inr (.inl l0)), (0, .inr (.inl l0)), (2, .inr (.inl l2))]) dX6_product_26 rfl (by decide) rfl ?_
      refine zr_lload (pc' := 30) dX6_product_28 rfl rfl ?_
      refine zr_lconst (pc' := 31) (x := 0) dX6_product_30 rfl rfl ?_
      refine zn_lif_eq (tgt := 51) (pc1 := 32) (pc' := 35) dX6_product_31 rfl dX6_product_32 rfl rfl h.1 (zLd rfl) (fun hc => ?_) (fun hc => ?_)
      · have h := h.2.1 hc
        refine zr_lload_n (pc' := 52) (i := 0) dX6_product_51 rfl rfl rfl ?_
        refine zr_lload_n (pc' := 53) (i := 2) dX6_product_52 rfl rfl rfl ?_
        refine zr_lmul (pc' := 54) dX6_product_53 rfl ?_
        exact zr_lreturn dX6_product_54 rfl (Nat.le_refl _) (Nat.le_refl _) (And.intro rfl h)
      · have h := h.2.2 hc
        refine zr_lload (pc' := 37) dX6_product_35 rfl rfl ?_
        refine zr_ldc2 (pc' := 40) (x := 1000000000000) dX6_product_37 rfl ci_X6_60 ?_
        refine zr_lload (pc' := 42) dX6_product_40 rfl rfl ?_
        refine zr_ldiv (pc' := 43) dX6_product_42 rfl (zLd rfl) h.1.1 h.1.2 ?_
        have h := h.2
        refine zn_lif_le (tgt := 51) (pc1 := 44) (pc' := 47) dX6_product_43 rfl dX6_product_44 rfl rfl h.1.1 h.1.2 (fun hc => ?_) (fun hc => ?_)
        · have h := h.2.1 hc
          refine zr_lload_n (pc' := 52) (i := 0) dX6_product_51 rfl rfl rfl ?_
          refine zr_lload_n (pc' := 53) (i := 2) dX6_product_52 rfl rfl rfl ?_
          refine zr_lmul (pc' := 54) dX6_product_53 rfl ?_
          exact zr_lreturn dX6_product_54 rfl (Nat.le_refl _) (Nat.le_refl _) (And.intro rfl h)
        · have h := h.2.2 hc
          refine zr_ldc2 (pc' := 50) (x := -9223372036854775808) dX6_product_47 rfl ci_X6_52 ?_
          exact zr_lreturn dX6_product_50 rfl (Nat.le_refl _) (Nat.le_refl _) (And.intro rfl h)
  · have h := h.2.2 hc
    refine zr_lload_n (pc' := 7) (i := 0) dX6_product_6 rfl rfl rfl ?_
    refine zr_lneg (pc' := 8) dX6_product_7 rfl ?_
    refine zr_goto (pc' := 12) dX6_product_8 rfl ?_
    refine zr_lstore (pc' := 14) (al' := [(4, .inr (.inl (-l0))), (0, .inr (.inl l0)), (2, .inr (.inl l2))]) dX6_product_12 rfl (by decide) rfl ?_
    refine zr_lload_n (pc' := 15) (i := 2) dX6_product_14 rfl rfl rfl ?_
    refine zr_lconst (pc' := 16) (x := 0) dX6_product_15 rfl rfl ?_
    refine zn_lif_ge (tgt := 25) (pc1 := 17) (pc' := 20) dX6_product_16 rfl dX6_product_17 rfl rfl h.1 (zLd rfl) (fun hc => ?_) (fun hc => ?_)
    · have h := h.2.1 hc
      refine zr_lload_n (pc' := 26) (i := 2) dX6_product_25 rfl rfl rfl ?_
      refine zr_lstore (pc' := 28) (al' := [(6, .inr (.inl l2)), (4, .inr (.inl (-l0))), (0, .inr (.inl l0)), (2, .inr (.inl l2))]) dX6_product_26 rfl (by decide) rfl ?_
      refine zr_lload (pc' := 30) dX6_product_28 rfl rfl ?_
      refine zr_lconst (pc' := 31) (x := 0) dX6_product_30 rfl rfl ?_
      refine zn_lif_eq (tgt := 51) (pc1 := 32) (pc' := 35) dX6_product_31 rfl dX6_product_32 rfl rfl h.1 (zLd rfl) (fun hc => ?_) (fun hc => ?_)
      · have h := h.2.1 hc
        refine zr_lload_n (pc' := 52) (i := 0) dX6_product_51 rfl rfl rfl ?_
        refine zr_lload_n (pc' := 53) (i := 2) dX6_product_52 rfl rfl rfl ?_
        refine zr_lmul (pc' := 54) dX6_product_53 rfl ?_
        exact zr_lreturn dX6_product_54 rfl (Nat.le_refl _) (Nat.le_refl _) (And.intro rfl h)
      · have h := h.2.2 hc
        refine zr_lload (pc' := 37) dX6_product_35 rfl rfl ?_
        refine zr_ldc2 (pc' := 40) (x := 1000000000000) dX6_product_37 rfl ci_X6_60 ?_
        refine zr_lload (pc' := 42) dX6_product_40 rfl rfl ?_
        refine zr_ldiv (pc' := 43) dX6_product_42 rfl (zLd rfl) h.1.1 h.1.2 ?_
        have h := h.2
        refine zn_lif_le (tgt := 51) (pc1 := 44) (pc' := 47) dX6_product_43 rfl dX6_product_44 rfl rfl h.1.1 h.1.2 (fun hc => ?_) (fun hc => ?_)
        · have h := h.2.1 hc
          refine zr_lload_n (pc' := 52) (i := 0) dX6_product_51 rfl rfl rfl ?_
          refine zr_lload_n (pc' := 53) (i := 2) dX6_product_52 rfl rfl rfl ?_
          refine zr_lmul (pc' := 54) dX6_product_53 rfl ?_
          exact zr_lreturn dX6_product_54 rfl (Nat.le_refl _) (Nat.le_refl _) (And.intro rfl h)
        · have h := h.2.2 hc
          refine zr_ldc2 (pc' := 50) (x := -9223372036854775808) dX6_product_47 rfl ci_X6_52 ?_
          exact zr_lreturn dX6_product_50 rfl (Nat.le_refl _) (Nat.le_refl _) (And.intro rfl h)
    · have h := h.2.2 hc
      refine zr_lload_n (pc' := 21) (i := 2) dX6_product_20 rfl rfl rfl ?_
      refine zr_lneg (pc' := 22) dX6_product_21 rfl ?_
      refine zr_goto (pc' := 26) dX6_product_22 rfl ?_
      refine zr_lstore (pc' := 28) (al' := [(6, .inr (.inl (-l2))), (4, .inr (.inl (-l0))), (0, .inr (.inl l0)), (2, .inr (.inl l2))]) dX6_product_26 rfl (by decide) rfl ?_
      refine zr_lload (pc' := 30) dX6_product_28 rfl rfl ?_
      refine zr_lconst (pc' := 31) (x := 0) dX6_product_30 rfl rfl ?_
      refine zn_lif_eq (tgt := 51) (pc1 := 32) (pc' := 35) dX6_product_31 rfl dX6_product_32 rfl rfl h.1 (zLd rfl) (fun hc => ?_) (fun hc => ?_)
      · have h := h.2.1 hc
        refine zr_lload_n (pc' := 52) (i := 0) dX6_product_51 rfl rfl rfl ?_
        refine zr_lload_n (pc' := 53) (i := 2) dX6_product_52 rfl rfl rfl ?_
        refine zr_lmul (pc' := 54) dX6_product_53 rfl ?_
        exact zr_lreturn dX6_product_54 rfl (Nat.le_refl _) (Nat.le_refl _) (And.intro rfl h)
      · have h := h.2.2 hc
        refine zr_lload (pc' := 37) dX6_product_35 rfl rfl ?_
        refine zr_ldc2 (pc' := 40) (x := 1000000000000) dX6_product_37 rfl ci_X6_60 ?_
        refine zr_lload (pc' := 42) dX6_product_40 rfl rfl ?_
        refine zr_ldiv (pc' := 43) dX6_product_42 rfl (zLd rfl) h.1.1 h.1.2 ?_
        have h := h.2
        refine zn_lif_le (tgt := 51) (pc1 := 44) (pc' := 47) dX6_product_43 rfl dX6_product_44 rfl rfl h.1.1 h.1.2 (fun hc => ?_) (fun hc => ?_)
        · have h := h.2.1 hc
          refine zr_lload_n (pc' := 52) (i := 0) dX6_product_51 rfl rfl rfl ?_
          refine zr_lload_n (pc' := 53) (i := 2) dX6_product_52 rfl rfl rfl ?_
          refine zr_lmul (pc' := 54) dX6_product_53 rfl ?_
          exact zr_lreturn dX6_product_54 rfl (Nat.le_refl _) (Nat.le_refl _) (And.intro rfl h)
        · have h := h.2.2 hc
          refine zr_ldc2 (pc' := 50) (x := -9223372036854775808) dX6_product_47 rfl ci_X6_52 ?_
          exact zr_lreturn dX6_product_50 rfl (Nat.le_refl _) (Nat.le_refl _) (And.intro rfl h)
set_option maxRecDepth 20000 in
theorem vcX7_readBook {E : zE} {M : zM} {Q : Int → zM → Prop} (l1 l2 : Int) (hi2 : zIs_6 l2) (I34 : Nat → Int → zM → Prop)
    (h : (zP E mX9_startText [.inr (.inr 2), .inl l1] M (fun r1 M2 => (zP E mX6_clear [.inr (.inr l2)] M2 (fun r3 M4 => (∀ M5, M5 = zup M4 1 1 0 → (∀ M6, M6 = zup M5 1 2 (-1) → (∀ M7, M7 = zup M6 1 3 0 → (∀ M8, M8 = zup M7 1 4 0 → ∃ n', I34 n' 0 M8)))))))))
    (h34 : ∀ (n : Nat) (l3 : Int) (M : zM), I34 n l3 M → ((zR l3) ∧ ((500 < l3 → Q (-1) M) ∧ (l3 ≤ 500 → (zP E mX9_next [.inr (.inr 2)] M (fun r9 M10 => ((zR (M10 2 4)) ∧ ((¬ (M10 2 4) = 32 → (zP E mX7_take [.inr (.inr 1), .inr (.inr l2)] M10 (fun r11 M12 => (∀ M13, M13 = zup M12 1 1 r11 → ((zR (M13 1 1)) ∧ (((M13 1 1) = 0 → ∃ n', n' < n ∧ I34 n' (l3 + 1) M13) ∧ (¬ (M13 1 1) = 0 → (∀ M14, M14 = zup M13 1 2 (M13 2 5) → Q (-1) M14)))))))) ∧ ((M10 2 4) = 32 → ((zR (M10 1 3)) ∧ ((¬ (M10 1 3) = 0 → (zP E mX7_take [.inr (.inr 1), .inr (.inr l2)] M10 (fun r15 M16 => (∀ M17, M17 = zup M16 1 1 r15 → ((zR (M17 1 1)) ∧ (((M17 1 1) = 0 → ∃ n', n' < n ∧ I34 n' (l3 + 1) M17) ∧ (¬ (M17 1 1) = 0 → (∀ M18, M18 = zup M17 1 2 (M17 2 5) → Q (-1) M18)))))))) ∧ ((M10 1 3) = 0 → Q (M10 1 4) M10))))))))))))
    : zP E mX7_readBook [.inr (.inr 1), .inl l1, .inr (.inr l2)] M Q := by
  have key : ∀ n : Nat, (∀ (l3 : Int) (M : zM), I34 n l3 M → zA E zNN (0, 0) mX7_readBook 34 [(0, .inr (.inr 1)), (2, .inr (.inr l2)), (3, .inl l3)] [] M (zQ Q)) := by
    intro n
    induction n using Nat.strongRecOn with
    | ind n ih =>
      intro l3 M h
      have h := h34 n l3 M h
      refine zr_iload_n (pc' := 35) (i := 3) dX7_readBook_34 rfl rfl rfl ?_
      refine zr_sipush (pc' := 38) dX7_readBook_35 rfl rfl ?_
      refine zr_icmp_gt (tgt := 107) (pc' := 41) dX7_readBook_38 rfl rfl h.1 (zRd rfl) (fun hc => ?_) (fun hc => ?_)
      · have h := h.2.1 hc
        refine zr_iconst (pc' := 108) dX7_readBook_107 rfl ?_
        exact zr_ireturn dX7_readBook_108 rfl rfl trivial (Nat.le_refl _) (Nat.le_refl _) (And.intro rfl h)
      · have h := h.2.2 hc
        refine zr_aload_n (pc' := 42) (i := 0) dX7_readBook_41 rfl rfl rfl ?_
        refine zr_get (pc' := 45) dX7_readBook_42 rfl ps_1 kd_1 fl_X7_12 kc_7 (gv_1_0 _) ?_
        refine zn_callV (pc' := 48) (args := []) (st := []) (st' := fun _ => []) dX7_readBook_45 rfl cv_X7_48 ⟨rfl, rfl, by decide, by decide⟩ rfl ps_2 kd_2 rfl rfl (Nat.le_of_ble_eq_true rfl) (fun _ => rfl) h ?_
        intro r9 M10 h
        refine zr_aload_n (pc' := 49) (i := 0) dX7_readBook_48 rfl rfl rfl ?_
        refine zr_get (pc' := 52) dX7_readBook_49 rfl ps_1 kd_1 fl_X7_12 kc_7 (gv_1_0 _) ?_
        refine zr_get (pc' := 55) dX7_readBook_52 rfl ps_2 kd_2 fl_X7_51 kc_9 (gv_2_4 _) ?_
        refine zr_bipush (pc' := 57) dX7_readBook_55 rfl rfl ?_
        refine zr_icmp_ne (tgt := 72) (pc' := 60) dX7_readBook_57 rfl rfl h.1 (zRd rfl) (fun hc => ?_) (fun hc => ?_)
        · have h := h.2.1 hc
          refine zr_aload_n (pc' := 73) (i := 0) dX7_readBook_72 rfl rfl rfl ?_
          refine zr_aload_n (pc' := 74) (i := 0) dX7_readBook_73 rfl rfl rfl ?_
          refine zr_aload_n (pc' := 75) (i := 2) dX7_readBook_74 rfl rfl rfl ?_
          refine zn_callV (pc' := 78) (args := [.inr (.inr l2)]) (st := [.inr (.inr 1)]) (st' := fun r11 => [.inl r11, .inr (.inr 1)]) dX7_readBook_75 rfl cv_X7_54 ⟨rfl, rfl, by decide, by decide⟩ rfl ps_1 kd_1 rfl rfl (Nat.le_of_ble_eq_true rfl) (fun _ => rfl) h ?_
          intro r11 M12 h
          refine zr_put (pc' := 81) dX7_readBook_78 rfl ps_1 kd_1 fl_X7_39 kc_7 rfl nf_1_1 rfl trivial (fun M13 hM1 => ?_)
          have h := h M13 hM1
          refine zr_aload_n (pc' := 82) (i := 0) dX7_readBook_81 rfl rfl rfl ?_
          refine zr_get (pc' := 85) dX7_readBook_82 rfl ps_1 kd_1 fl_X7_39 kc_7 (gv_1_1 _) ?_
          refine zr_if_eq (tgt := 101) (pc' := 88) dX7_readBook_85 rfl rfl h.1 (fun hc => ?_) (fun hc => ?_)
          · have h := h.2.1 hc
            refine zr_iinc (pc' := 104) (al' := [(3, .inl (l3 + 1)), (0, .inr (.inr 1)), (2, .inr (.inr l2))]) dX7_readBook_101 rfl rfl (by decide) rfl ?_
            refine zr_goto (pc' := 34) dX7_readBook_104 rfl ?_
            obtain ⟨n', hn, h⟩ := h
            exact zn_al ((ih n' hn) _ _ h) ⟨rfl, rfl, rfl, trivial⟩
          · have h := h.2.2 hc
            refine zr_aload_n (pc' := 89) (i := 0) dX7_readBook_88 rfl rfl rfl ?_
            refine zr_aload_n (pc' := 90) (i := 0) dX7_readBook_89 rfl rfl rfl ?_
            refine zr_get (pc' := 93) dX7_readBook_90 rfl ps_1 kd_1 fl_X7_12 kc_7 (gv_1_0 _) ?_
            refine zr_get (pc' := 96) dX7_readBook_93 rfl ps_2 kd_2 fl_X7_58 kc_9 (gv_2_5 _) ?_
            refine zr_put (pc' := 99) dX7_readBook_96 rfl ps_1 kd_1 fl_X7_18 kc_7 rfl nf_1_2 rfl trivial (fun M14 hM1 => ?_)
            have h := h M14 hM1
            refine zr_iconst (pc' := 100) dX7_readBook_99 rfl ?_
            exact zr_ireturn dX7_readBook_100 rfl rfl trivial (Nat.le_refl _) (Nat.le_refl _) (And.intro rfl h)
        · have h := h.2.2 hc
          refine zr_aload_n (pc' := 61) (i := 0) dX7_readBook_60 rfl rfl rfl ?_
          refine zr_get (pc' := 64) dX7_readBook_61 rfl ps_1 kd_1 fl_X7_42 kc_7 (gv_1_3 _) ?_
          refine zr_if_ne (tgt := 72) (pc' := 67) dX7_readBook_64 rfl rfl h.1 (fun hc => ?_) (fun hc => ?_)
          · have h := h.2.1 hc
            refine zr_aload_n (pc' := 73) (i := 0) dX7_readBook_72 rfl rfl rfl ?_
            refine zr_aload_n (pc' := 74) (i := 0) dX7_readBook_73 rfl rfl rfl ?_
            refine zr_aload_n (pc' := 75) (i := 2) dX7_readBook_74 rfl rfl rfl ?_
            refine zn_callV (pc' := 78) (args := [.inr (.inr l2)]) (st := [.inr (.inr 1)]) (st' := fun r15 => [.inl r15, .inr (.inr 1)]) dX7_readBook_75 rfl cv_X7_54 ⟨rfl, rfl, by decide, by decide⟩ rfl ps_1 kd_1 rfl rfl (Nat.le_of_ble_eq_true rfl) (fun _ => rfl) h ?_
            intro r15 M16 h
            refine zr_put (pc' := 81) dX7_readBook_78 rfl ps_1 kd_1 fl_X7_39 kc_7 rfl nf_1_1 rfl trivial (fun M17 hM1 => ?_)
            have h := h M17 hM1
            refine zr_aload_n (pc' := 82) (i := 0) dX7_readBook_81 rfl rfl rfl ?_
            refine zr_get (pc' := 85) dX7_readBook_82 rfl ps_1 kd_1 fl_X7_39 kc_7 (gv_1_1 _) ?_
            refine zr_if_eq (tgt := 101) (pc' := 88) dX7_readBook_85 rfl rfl h.1 (fun hc => ?_) (fun hc => ?_)
            · have h := h.2.1 hc
              refine zr_iinc (pc' := 104) (al' := [(3, .inl (l3 + 1)), (0, .inr (.inr 1)), (2, .inr (.inr l2))]) dX7_readBook_101 rfl rfl (by decide) rfl ?_
              refine zr_goto (pc' := 34) dX7_readBook_104 rfl ?_
              obtain ⟨n', hn, h⟩ := h
              exact zn_al ((ih n' hn) _ _ h) ⟨rfl, rfl, rfl, trivial⟩
            · have h := h.2.2 hc
              refine zr_aload_n (pc' := 89) (i := 0) dX7_readBook_88 rfl rfl rfl ?_
              refine zr_aload_n (pc' := 90) (i := 0) dX7_readBook_89 rfl rfl rfl ?_
              refine zr_get (pc' := 93) dX7_readBook_90 rfl ps_1 kd_1 fl_X7_12 kc_7 (gv_1_0 _) ?_
              refine zr_get (pc' := 96) dX7_readBook_93 rfl ps_2 kd_2 fl_X7_58 kc_9 (gv_2_5 _) ?_
              refine zr_put (pc' := 99) dX7_readBook_96 rfl ps_1 kd_1 fl_X7_18 kc_7 rfl nf_1_2 rfl trivial (fun M18 hM1 => ?_)
              have h := h M18 hM1
              refine zr_iconst (pc' := 100) dX7_readBook_99 rfl ?_
              exact zr_ireturn dX7_readBook_100 rfl rfl trivial (Nat.le_refl _) (Nat.le_refl _) (And.intro rfl h)
          · have h := h.2.2 hc
            refine zr_aload_n (pc' := 68) (i := 0) dX7_readBook_67 rfl rfl rfl ?_
            refine zr_get (pc' := 71) dX7_readBook_68 rfl ps_1 kd_1 fl_X7_45 kc_7 (gv_1_4 _) ?_
            exact zr_ireturn dX7_readBook_71 rfl rfl trivial (Nat.le_refl _) (Nat.le_refl _) (And.intro rfl h)
  refine zP_of (by decide +kernel) rfl (Nat.le_of_ble_eq_true rfl) ?_
  show zA E zNN (0, 0) mX7_readBook 0 [(0, .inr (.inr 1)), (1, .inl l1), (2, .inr (.inr l2))] [] M (zQ Q)
  refine zr_aload_n (pc' := 1) (i := 0) dX7_readBook_0 rfl rfl rfl ?_
  refine zr_get (pc' := 4) dX7_readBook_1 rfl ps_1 kd_1 fl_X7_12 kc_7 (gv_1_0 _) ?_
  refine zr_iload_n (pc' := 5) (i := 1) dX7_readBook_4 rfl rfl rfl ?_
  refine zn_callV (pc' := 8) (args := [.inl l1]) (st := []) (st' := fun _ => []) dX7_readBook_5 rfl cv_X7_32 ⟨rfl, rfl, by decide, by decide⟩ rfl ps_2 kd_2 rfl rfl (Nat.le_of_ble_eq_true rfl) (fun _ => rfl) h ?_
  intro r1 M2 h
  refine zr_aload_n (pc' := 9) (i := 2) dX7_readBook_8 rfl rfl rfl ?_
  refine zn_callV (pc' := 12) (args := []) (st := []) (st' := fun _ => []) dX7_readBook_9 rfl cv_X7_36 ⟨rfl, rfl, by decide, by decide⟩ rfl (is_6_pos hi2) (is_6_kd hi2) rfl rfl (Nat.le_of_ble_eq_true rfl) (fun _ => rfl) h ?_
  intro r3 M4 h
  refine zr_aload_n (pc' := 13) (i := 0) dX7_readBook_12 rfl rfl rfl ?_
  refine zr_iconst (pc' := 14) dX7_readBook_13 rfl ?_
  refine zr_put (pc' := 17) dX7_readBook_14 rfl ps_1 kd_1 fl_X7_39 kc_7 rfl nf_1_1 rfl trivial (fun M5 hM1 => ?_)
  have h := h M5 hM1
  refine zr_aload_n (pc' := 18) (i := 0) dX7_readBook_17 rfl rfl rfl ?_
  refine zr_iconst (pc' := 19) dX7_readBook_18 rfl ?_
  refine zr_put (pc' := 22) dX7_readBook_19 rfl ps_1 kd_1 fl_X7_18 kc_7 rfl nf_1_2 rfl trivial (fun M6 hM1 => ?_)
  have h := h M6 hM1
  refine zr_aload_n (pc' := 23) (i := 0) dX7_readBook_22 rfl rfl rfl ?_
  refine zr_iconst (pc' := 24) dX7_readBook_23 rfl ?_
  refine zr_put (pc' := 27) dX7_readBook_24 rfl ps_1 kd_1 fl_X7_42 kc_7 rfl nf_1_3 rfl trivial (fun M7 hM1 => ?_)
  have h := h M7 hM1
  refine zr_aload_n (pc' := 28) (i := 0) dX7_readBook_27 rfl rfl rfl ?_
  refine zr_iconst (pc' := 29) dX7_readBook_28 rfl ?_
  refine zr_put (pc' := 32) dX7_readBook_29 rfl ps_1 kd_1 fl_X7_45 kc_7 rfl nf_1_4 rfl trivial (fun M8 hM1 => ?_)
  have h := h M8 hM1
  refine zr_iconst (pc' := 33) dX7_readBook_32 rfl ?_
  refine zr_istore_n (pc' := 34) (i := 3) (al' := [(3, .inl 0), (0, .inr (.inr 1)), (1, .inl l1), (2, .inr (.inr l2))]) dX7_readBook_33 rfl rfl (by decide) rfl ?_
  obtain ⟨n', h⟩ := h
  exact zn_al ((key n') _ _ h) ⟨rfl, rfl, rfl, trivial⟩
set_option maxRecDepth 20000 in
theorem vcX7_take {E : zE} {M : zM} {Q : Int → zM → Prop} (l1 : Int) (hi1 : zIs_6 l1)
    (h : (zR (M 1 3) ∧ (((M 1 3) < 0 ∨ 5 < (M 1 3)) → (zP E mX7_takeOfWindow [.inr (.inr 1), .inr (.inr l1)] M (fun r1 M2 => Q r1 M2))) ∧ ((M 1 3) = 0 → (zP E mX7_takeLineWord [.inr (.inr 1), .inr (.inr l1)] M (fun r3 M4 => Q r3 M4))) ∧ ((M 1 3) = 1 → (zP E mX7_takeKeep [.inr (.inr 1), .inr (.inr l1)] M (fun r5 M6 => Q r5 M6))) ∧ ((M 1 3) = 2 → (zP E mX7_takeKeepEnd [.inr (.inr 1)] M (fun r7 M8 => Q r7 M8))) ∧ ((M 1 3) = 3 → (zP E mX7_takeLevel [.inr (.inr 1)] M (fun r9 M10 => Q r9 M10))) ∧ ((M 1 3) = 4 → (zP E mX7_takeAheadOfOperand [.inr (.inr 1), .inr (.inr l1)] M (fun r11 M12 => Q r11 M12))) ∧ ((M 1 3) = 5 → (zP E mX7_takeBehindOperand [.inr (.inr 1), .inr (.inr l1)] M (fun r13 M14 => Q r13 M14)))))
    : zP E mX7_take [.inr (.inr 1), .inr (.inr l1)] M Q := by
  refine zP_of (by decide +kernel) rfl (Nat.le_of_ble_eq_true rfl) ?_
  show zA E zNN (0, 0) mX7_take 0 [(0, .inr (.inr 1)), (1, .inr (.inr l1))] [] M (zQ Q)
  refine zr_aload_n (pc' := 1) (i := 0) dX7_take_0 rfl rfl rfl ?_
  refine zr_get (pc' := 4) dX7_take_1 rfl ps_1 kd_1 fl_X7_42 kc_7 (gv_1_3 _) ?_
  by_cases hsw : (M 1 3) < 0 ∨ 5 < (M 1 3)
  · refine zr_tableOut (tgt := 78) dX7_take_4 h.1 hsw rfl ?_
    have h := h.2.1 hsw
    refine zr_aload_n (pc' := 79) (i := 0) dX7_take_78 rfl rfl rfl ?_
    refine zr_aload_n (pc' := 80) (i := 1) dX7_take_79 rfl rfl rfl ?_
    refine zn_callV (pc' := 83) (args := [.inr (.inr l1)]) (st := []) (st' := fun r1 => [.inl r1]) dX7_take_80 rfl cv_X7_80 ⟨rfl, rfl, by decide, by decide⟩ rfl ps_1 kd_1 rfl rfl (Nat.le_of_ble_eq_true rfl) (fun _ => rfl) h ?_
    intro r1 M2 h
    exact zr_ireturn dX7_take_83 rfl rfl trivial (Nat.le_refl _) (Nat.le_refl _) (And.intro rfl h)
  · have hsx : (M 1 3) = 0 ∨ (M 1 3) = 1 ∨ (M 1 3) = 2 ∨ (M 1 3) = 3 ∨ (M 1 3) = 4 ∨ (M 1 3) = 5 := by omega
    rcases hsx with hsx | hsx | hsx | hsx | hsx | hsx
    · refine zr_tableIn (off := 40) (tgt := 44) dX7_take_4 h.1 (by omega) (by omega) (by rw [hsx]; rfl) rfl ?_
      have h := h.2.2.1 hsx
      refine zr_aload_n (pc' := 45) (i := 0) dX7_take_44 rfl rfl rfl ?_
      refine zr_aload_n (pc' := 46) (i := 1) dX7_take_45 rfl rfl rfl ?_
      refine zn_callV (pc' := 49) (args := [.inr (.inr l1)]) (st := []) (st' := fun r3 => [.inl r3]) dX7_take_46 rfl cv_X7_61 ⟨rfl, rfl, by decide, by decide⟩ rfl ps_1 kd_1 rfl rfl (Nat.le_of_ble_eq_true rfl) (fun _ => rfl) h ?_
      intro r3 M4 h
      exact zr_ireturn dX7_take_49 rfl rfl trivial (Nat.le_refl _) (Nat.le_refl _) (And.intro rfl h)
    · refine zr_tableIn (off := 46) (tgt := 50) dX7_take_4 h.1 (by omega) (by omega) (by rw [hsx]; rfl) rfl ?_
      have h := h.2.2.2.1 hsx
      refine zr_aload_n (pc' := 51) (i := 0) dX7_take_50 rfl rfl rfl ?_
      refine zr_aload_n (pc' := 52) (i := 1) dX7_take_51 rfl rfl rfl ?_
      refine zn_callV (pc' := 55) (args := [.inr (.inr l1)]) (st := []) (st' := fun r5 => [.inl r5]) dX7_take_52 rfl cv_X7_64 ⟨rfl, rfl, by decide, by decide⟩ rfl ps_1 kd_1 rfl rfl (Nat.le_of_ble_eq_true rfl) (fun _ => rfl) h ?_
      intro r5 M6 h
      exact zr_ireturn dX7_take_55 rfl rfl trivial (Nat.le_refl _) (Nat.le_refl _) (And.intro rfl h)
    · refine zr_tableIn (off := 52) (tgt := 56) dX7_take_4 h.1 (by omega) (by omega) (by rw [hsx]; rfl) rfl ?_
      have h := h.2.2.2.2.1 hsx
      refine zr_aload_n (pc' := 57) (i := 0) dX7_take_56 rfl rfl rfl ?_
      refine zn_callV (pc' := 60) (args := []) (st := []) (st' := fun r7 => [.inl r7]) dX7_take_57 rfl cv_X7_67 ⟨rfl, rfl, by decide, by decide⟩ rfl ps_1 kd_1 rfl rfl (Nat.le_of_ble_eq_true rfl) (fun _ => rfl) h ?_
      intro r7 M8 h
      exact zr_ireturn dX7_take_60 rfl rfl trivial (Nat.le_refl _) (Nat.le_refl _) (And.intro rfl h)
    · refine zr_tableIn (off := 57) (tgt := 61) dX7_take_4 h.1 (by omega) (by omega) (by rw [hsx]; rfl) rfl ?_
      have h := h.2.2.2.2.2.1 hsx
      refine zr_aload_n (pc' := 62) (i := 0) dX7_take_61 rfl rfl rfl ?_
      refine zn_callV (pc' := 65) (args := []) (st := []) (st' := fun r9 => [.inl r9]) dX7_take_62 rfl cv_X7_71 ⟨rfl, rfl, by decide, by decide⟩ rfl ps_1 kd_1 rfl rfl (Nat.le_of_ble_eq_true rfl) (fun _ => rfl) h ?_
      intro r9 M10 h
      exact zr_ireturn dX7_take_65 rfl rfl trivial (Nat.le_refl _) (Nat.le_refl _) (And.intro rfl h)
    · refine zr_tableIn (off := 62) (tgt := 66) dX7_take_4 h.1 (by omega) (by omega) (by rw [hsx]; rfl) rfl ?_
      have h := h.2.2.2.2.2.2.1 hsx
      refine zr_aload_n (pc' := 67) (i := 0) dX7_take_66 rfl rfl rfl ?_
      refine zr_aload_n (pc' := 68) (i := 1) dX7_take_67 rfl rfl rfl ?_
      refine zn_callV (pc' := 71) (args := [.inr (.inr l1)]) (st := []) (st' := fun r11 => [.inl r11]) dX7_take_68 rfl cv_X7_74 ⟨rfl, rfl, by decide, by decide⟩ rfl ps_1 kd_1 rfl rfl (Nat.le_of_ble_eq_true rfl) (fun _ => rfl) h ?_
      intro r11 M12 h
      exact zr_ireturn dX7_take_71 rfl rfl trivial (Nat.le_refl _) (Nat.le_refl _) (And.intro rfl h)
    · refine zr_tableIn (off := 68) (tgt := 72) dX7_take_4 h.1 (by omega) (by omega) (by rw [hsx]; rfl) rfl ?_
      have h := h.2.2.2.2.2.2.2 hsx
      refine zr_aload_n (pc' := 73) (i := 0) dX7_take_72 rfl rfl rfl ?_
      refine zr_aload_n (pc' := 74) (i := 1) dX7_take_73 rfl rfl rfl ?_
      refine zn_callV (pc' := 77) (args := [.inr (.inr l1)]) (st := []) (st' := fun r13 => [.inl r13]) dX7_take_74 rfl cv_X7_77 ⟨rfl, rfl, by decide, by decide⟩ rfl ps_1 kd_1 rfl rfl (Nat.le_of_ble_eq_true rfl) (fun _ => rfl) h ?_
      intro r13 M14 h
      exact zr_ireturn dX7_take_77 rfl rfl trivial (Nat.le_refl _) (Nat.le_refl _) (And.intro rfl h)
