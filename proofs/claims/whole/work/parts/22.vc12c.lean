set_option maxRecDepth 20000 in
theorem vcX12_lineValue {E : zE} {M : zM} {Q : Int → zM → Prop} (l1 l2 : Int) (I7 : Nat → Int → Int → Int → Int → zM → Prop)
    (h : ∃ n', I7 n' l1 l2 (-9223372036854775808) 0 M)
    (h7 : ∀ (n : Nat) (l1 l2 l3 l5 : Int) (M : zM), I7 n l1 l2 l3 l5 M → (0 ≤ l1 ∧ l1 < 24) ∧ ((zR l5 ∧ zR (M 122 l1.toNat)) ∧ (((M 122 l1.toNat) ≤ l5 → Q l3 M) ∧ (l5 < (M 122 l1.toNat) → (0 ≤ l1 ∧ l1 < 24) ∧ (0 ≤ (M 121 l1.toNat) + l5 ∧ (M 121 l1.toNat) + l5 < 128) ∧ (0 ≤ M 119 (((M 121 l1.toNat) + l5).toNat) ∧ M 119 (((M 121 l1.toNat) + l5).toNat) < 128) ∧ ((zR (M 113 ((M 119 (((M 121 l1.toNat) + l5).toNat)).toNat))) ∧ ((¬ (M 113 ((M 119 (((M 121 l1.toNat) + l5).toNat)).toNat)) = 0 → ((zR (M 113 ((M 119 (((M 121 l1.toNat) + l5).toNat)).toNat))) ∧ ((¬ (M 113 ((M 119 (((M 121 l1.toNat) + l5).toNat)).toNat)) = 15 → ((zR (M 113 ((M 119 (((M 121 l1.toNat) + l5).toNat)).toNat))) ∧ ((¬ (M 113 ((M 119 (((M 121 l1.toNat) + l5).toNat)).toNat)) = 11 → ((zR (M 113 ((M 119 (((M 121 l1.toNat) + l5).toNat)).toNat))) ∧ ((¬ (M 113 ((M 119 (((M 121 l1.toNat) + l5).toNat)).toNat)) = 12 → (0 ≤ M 119 (((M 121 l1.toNat) + l5).toNat) ∧ M 119 (((M 121 l1.toNat) + l5).toNat) < 128) ∧ (0 ≤ M 114 ((M 119 (((M 121 l1.toNat) + l5).toNat)).toNat) ∧ M 114 ((M 119 (((M 121 l1.toNat) + l5).toNat)).toNat) < 64) ∧ (0 ≤ M 119 (((M 121 l1.toNat) + l5).toNat) ∧ M 119 (((M 121 l1.toNat) + l5).toNat) < 128) ∧ (0 ≤ M 115 ((M 119 (((M 121 l1.toNat) + l5).toNat)).toNat) ∧ M 115 ((M 119 (((M 121 l1.toNat) + l5).toNat)).toNat) < 64) ∧ (zP E mX12_made [.inl (M 113 ((M 119 (((M 121 l1.toNat) + l5).toNat)).toNat)), .inr (.inl (M 127 ((M 114 ((M 119 (((M 121 l1.toNat) + l5).toNat)).toNat)).toNat))), .inr (.inl (M 127 ((M 115 ((M 119 (((M 121 l1.toNat) + l5).toNat)).toNat)).toNat)))] M (fun r1 M2 => ((zL r1) ∧ ((¬ r1 = (-9223372036854775808) → (0 ≤ M 119 (((M 121 l1.toNat) + l5).toNat) ∧ M 119 (((M 121 l1.toNat) + l5).toNat) < 64) ∧ (∀ M3, M3 = zup M2 127 ((M 119 (((M 121 l1.toNat) + l5).toNat)).toNat) r1 → ∃ n', n' < n ∧ I7 n' l1 l2 r1 (l5 + 1) M3)) ∧ (r1 = (-9223372036854775808) → Q (-9223372036854775808) M2)))))) ∧ ((M 113 ((M 119 (((M 121 l1.toNat) + l5).toNat)).toNat)) = 12 → (0 ≤ M 119 (((M 121 l1.toNat) + l5).toNat) ∧ M 119 (((M 121 l1.toNat) + l5).toNat) < 128) ∧ (0 ≤ M 114 ((M 119 (((M 121 l1.toNat) + l5).toNat)).toNat) ∧ M 114 ((M 119 (((M 121 l1.toNat) + l5).toNat)).toNat) < 64) ∧ ((zL (M 127 ((M 114 ((M 119 (((M 121 l1.toNat) + l5).toNat)).toNat)).toNat))) ∧ ((¬ (M 127 ((M 114 ((M 119 (((M 121 l1.toNat) + l5).toNat)).toNat)).toNat)) = 0 → (zP E mX12_truth [.inl 0] M (fun r4 M5 => ((zL r4) ∧ ((¬ r4 = (-9223372036854775808) → (0 ≤ M 119 (((M 121 l1.toNat) + l5).toNat) ∧ M 119 (((M 121 l1.toNat) + l5).toNat) < 64) ∧ (∀ M6, M6 = zup M5 127 ((M 119 (((M 121 l1.toNat) + l5).toNat)).toNat) r4 → ∃ n', n' < n ∧ I7 n' l1 l2 r4 (l5 + 1) M6)) ∧ (r4 = (-9223372036854775808) → Q (-9223372036854775808) M5)))))) ∧ ((M 127 ((M 114 ((M 119 (((M 121 l1.toNat) + l5).toNat)).toNat)).toNat)) = 0 → (zP E mX12_truth [.inl 1] M (fun r7 M8 => ((zL r7) ∧ ((¬ r7 = (-9223372036854775808) → (0 ≤ M 119 (((M 121 l1.toNat) + l5).toNat) ∧ M 119 (((M 121 l1.toNat) + l5).toNat) < 64) ∧ (∀ M9, M9 = zup M8 127 ((M 119 (((M 121 l1.toNat) + l5).toNat)).toNat) r7 → ∃ n', n' < n ∧ I7 n' l1 l2 r7 (l5 + 1) M9)) ∧ (r7 = (-9223372036854775808) → Q (-9223372036854775808) M8)))))))))))) ∧ ((M 113 ((M 119 (((M 121 l1.toNat) + l5).toNat)).toNat)) = 11 → (0 ≤ M 119 (((M 121 l1.toNat) + l5).toNat) ∧ M 119 (((M 121 l1.toNat) + l5).toNat) < 128) ∧ (0 ≤ M 114 ((M 119 (((M 121 l1.toNat) + l5).toNat)).toNat) ∧ M 114 ((M 119 (((M 121 l1.toNat) + l5).toNat)).toNat) < 64) ∧ ((zL (-(M 127 ((M 114 ((M 119 (((M 121 l1.toNat) + l5).toNat)).toNat)).toNat)))) ∧ ((¬ (-(M 127 ((M 114 ((M 119 (((M 121 l1.toNat) + l5).toNat)).toNat)).toNat))) = (-9223372036854775808) → (0 ≤ M 119 (((M 121 l1.toNat) + l5).toNat) ∧ M 119 (((M 121 l1.toNat) + l5).toNat) < 64) ∧ (∀ M10, M10 = zup M 127 ((M 119 (((M 121 l1.toNat) + l5).toNat)).toNat) (-(M 127 ((M 114 ((M 119 (((M 121 l1.toNat) + l5).toNat)).toNat)).toNat))) → ∃ n', n' < n ∧ I7 n' l1 l2 (-(M 127 ((M 114 ((M 119 (((M 121 l1.toNat) + l5).toNat)).toNat)).toNat))) (l5 + 1) M10)) ∧ ((-(M 127 ((M 114 ((M 119 (((M 121 l1.toNat) + l5).toNat)).toNat)).toNat))) = (-9223372036854775808) → Q (-9223372036854775808) M))))))) ∧ ((M 113 ((M 119 (((M 121 l1.toNat) + l5).toNat)).toNat)) = 15 → (0 ≤ M 119 (((M 121 l1.toNat) + l5).toNat) ∧ M 119 (((M 121 l1.toNat) + l5).toNat) < 128) ∧ (0 ≤ M 119 (((M 121 l1.toNat) + l5).toNat) ∧ M 119 (((M 121 l1.toNat) + l5).toNat) < 128) ∧ (0 ≤ M 119 (((M 121 l1.toNat) + l5).toNat) ∧ M 119 (((M 121 l1.toNat) + l5).toNat) < 128) ∧ (zP E mX12_whatValue [.inr (.inr 102), .inl (M 117 ((M 119 (((M 121 l1.toNat) + l5).toNat)).toNat)), .inl (M 118 ((M 119 (((M 121 l1.toNat) + l5).toNat)).toNat)), .inl (M 116 ((M 119 (((M 121 l1.toNat) + l5).toNat)).toNat)), .inl l2] M (fun r11 M12 => ((zL r11) ∧ ((¬ r11 = (-9223372036854775808) → (0 ≤ M 119 (((M 121 l1.toNat) + l5).toNat) ∧ M 119 (((M 121 l1.toNat) + l5).toNat) < 64) ∧ (∀ M13, M13 = zup M12 127 ((M 119 (((M 121 l1.toNat) + l5).toNat)).toNat) r11 → ∃ n', n' < n ∧ I7 n' l1 l2 r11 (l5 + 1) M13)) ∧ (r11 = (-9223372036854775808) → Q (-9223372036854775808) M12))))))))) ∧ ((M 113 ((M 119 (((M 121 l1.toNat) + l5).toNat)).toNat)) = 0 → (0 ≤ M 119 (((M 121 l1.toNat) + l5).toNat) ∧ M 119 (((M 121 l1.toNat) + l5).toNat) < 128) ∧ zR (M 116 ((M 119 (((M 121 l1.toNat) + l5).toNat)).toNat)) ∧ ((zL (M 116 ((M 119 (((M 121 l1.toNat) + l5).toNat)).toNat))) ∧ ((¬ (M 116 ((M 119 (((M 121 l1.toNat) + l5).toNat)).toNat)) = (-9223372036854775808) → (0 ≤ M 119 (((M 121 l1.toNat) + l5).toNat) ∧ M 119 (((M 121 l1.toNat) + l5).toNat) < 64) ∧ (∀ M14, M14 = zup M 127 ((M 119 (((M 121 l1.toNat) + l5).toNat)).toNat) (M 116 ((M 119 (((M 121 l1.toNat) + l5).toNat)).toNat)) → ∃ n', n' < n ∧ I7 n' l1 l2 (M 116 ((M 119 (((M 121 l1.toNat) + l5).toNat)).toNat)) (l5 + 1) M14)) ∧ ((M 116 ((M 119 (((M 121 l1.toNat) + l5).toNat)).toNat)) = (-9223372036854775808) → Q (-9223372036854775808) M))))))))))
    : zP E mX12_lineValue [.inr (.inr 102), .inl l1, .inl l2] M Q := by
  have key : ∀ n : Nat, (∀ (l1 l2 l3 l5 : Int) (M : zM), I7 n l1 l2 l3 l5 M → zA E zNN (0, 0) mX12_lineValue 7 [(0, .inr (.inr 102)), (1, .inl l1), (2, .inl l2), (3, .inr (.inl l3)), (5, .inl l5)] [] M (zQ Q)) := by
    intro n
    induction n using Nat.strongRecOn with
    | ind n ih =>
      intro l1 l2 l3 l5 M h
      have h := h7 n l1 l2 l3 l5 M h
      refine zr_iload (pc' := 9) dX12_lineValue_7 rfl rfl ?_
      refine zr_aload_n (pc' := 10) (i := 0) dX12_lineValue_9 rfl rfl rfl ?_
      refine zr_get (pc' := 13) dX12_lineValue_10 rfl ps_102 kd_102 fl_X12_72 kc_12 (gv_102_31 _) ?_
      refine zr_iload_n (pc' := 14) (i := 1) dX12_lineValue_13 rfl rfl rfl ?_
      refine zr_iald (pc' := 15) dX12_lineValue_14 rfl ps_122 kd_122 (by decide) h.1.1 h.1.2 ?_
      have h := h.2
      refine zr_icmp_ge (tgt := 209) (pc' := 18) dX12_lineValue_15 rfl rfl h.1.1 h.1.2 (fun hc => ?_) (fun hc => ?_)
      · have h := h.2.1 hc
        refine zr_lload_n (pc' := 210) (i := 3) dX12_lineValue_209 rfl rfl rfl ?_
        exact zr_lreturn dX12_lineValue_210 rfl (Nat.le_refl _) (Nat.le_refl _) (And.intro rfl h)
      · have h := h.2.2 hc
        refine zr_aload_n (pc' := 19) (i := 0) dX12_lineValue_18 rfl rfl rfl ?_
        refine zr_get (pc' := 22) dX12_lineValue_19 rfl ps_102 kd_102 fl_X12_63 kc_12 (gv_102_28 _) ?_
        refine zr_aload_n (pc' := 23) (i := 0) dX12_lineValue_22 rfl rfl rfl ?_
        refine zr_get (pc' := 26) dX12_lineValue_23 rfl ps_102 kd_102 fl_X12_69 kc_12 (gv_102_30 _) ?_
        refine zr_iload_n (pc' := 27) (i := 1) dX12_lineValue_26 rfl rfl rfl ?_
        refine zr_iald (pc' := 28) dX12_lineValue_27 rfl ps_121 kd_121 (by decide) h.1.1 h.1.2 ?_
        have h := h.2
        refine zr_iload (pc' := 30) dX12_lineValue_28 rfl rfl ?_
        refine zr_iadd (pc' := 31) dX12_lineValue_30 rfl ?_
        refine zr_iald (pc' := 32) dX12_lineValue_31 rfl ps_119 kd_119 (by decide) h.1.1 h.1.2 ?_
        have h := h.2
        refine zr_istore (pc' := 34) (al' := [(6, .inl (M 119 (((M 121 l1.toNat) + l5).toNat))), (0, .inr (.inr 102)), (1, .inl l1), (2, .inl l2), (3, .inr (.inl l3)), (5, .inl l5)]) dX12_lineValue_32 rfl (by decide) rfl ?_
        refine zr_aload_n (pc' := 35) (i := 0) dX12_lineValue_34 rfl rfl rfl ?_
        refine zr_get (pc' := 38) dX12_lineValue_35 rfl ps_102 kd_102 fl_X12_45 kc_12 (gv_102_22 _) ?_
        refine zr_iload (pc' := 40) dX12_lineValue_38 rfl rfl ?_
        refine zr_iald (pc' := 41) dX12_lineValue_40 rfl ps_113 kd_113 (by decide) h.1.1 h.1.2 ?_
        have h := h.2
        refine zr_istore (pc' := 43) (al' := [(7, .inl (M 113 ((M 119 (((M 121 l1.toNat) + l5).toNat)).toNat))), (6, .inl (M 119 (((M 121 l1.toNat) + l5).toNat))), (0, .inr (.inr 102)), (1, .inl l1), (2, .inl l2), (3, .inr (.inl l3)), (5, .inl l5)]) dX12_lineValue_41 rfl (by decide) rfl ?_
        refine zr_iload (pc' := 45) dX12_lineValue_43 rfl rfl ?_
        refine zr_if_ne (tgt := 59) (pc' := 48) dX12_lineValue_45 rfl rfl h.1 (fun hc => ?_) (fun hc => ?_)
        · have h := h.2.1 hc
          refine zr_iload (pc' := 61) dX12_lineValue_59 rfl rfl ?_
          refine zr_bipush (pc' := 63) dX12_lineValue_61 rfl rfl ?_
          refine zr_icmp_ne (tgt := 95) (pc' := 66) dX12_lineValue_63 rfl rfl h.1 (zRd rfl) (fun hc => ?_) (fun hc => ?_)
          · have h := h.2.1 hc
            refine zr_iload (pc' := 97) dX12_lineValue_95 rfl rfl ?_
            refine zr_bipush (pc' := 99) dX12_lineValue_97 rfl rfl ?_
            refine zr_icmp_ne (tgt := 118) (pc' := 102) dX12_lineValue_99 rfl rfl h.1 (zRd rfl) (fun hc => ?_) (fun hc => ?_)
            · have h := h.2.1 hc
              refine zr_iload (pc' := 120) dX12_lineValue_118 rfl rfl ?_
              refine zr_bipush (pc' := 122) dX12_lineValue_120 rfl rfl ?_
              refine zr_icmp_ne (tgt := 153) (pc' := 125) dX12_lineValue_122 rfl rfl h.1 (zRd rfl) (fun hc => ?_) (fun hc => ?_)
              · have h := h.2.1 hc
                refine zr_iload (pc' := 155) dX12_lineValue_153 rfl rfl ?_
                refine zr_aload_n (pc' := 156) (i := 0) dX12_lineValue_155 rfl rfl rfl ?_
                refine zr_get (pc' := 159) dX12_lineValue_156 rfl ps_102 kd_102 fl_X12_87 kc_12 (gv_102_50 _) ?_
                refine zr_aload_n (pc' := 160) (i := 0) dX12_lineValue_159 rfl rfl rfl ?_
                refine zr_get (pc' := 163) dX12_lineValue_160 rfl ps_102 kd_102 fl_X12_48 kc_12 (gv_102_23 _) ?_
                refine zr_iload (pc' := 165) dX12_lineValue_163 rfl rfl ?_
                refine zr_iald (pc' := 166) dX12_lineValue_165 rfl ps_114 kd_114 (by decide) h.1.1 h.1.2 ?_
                have h := h.2
                refine zr_lald (pc' := 167) dX12_lineValue_166 rfl ps_127 kd_127 (by decide) h.1.1 h.1.2 ?_
                have h := h.2
                refine zr_aload_n (pc' := 168) (i := 0) dX12_lineValue_167 rfl rfl rfl ?_
                refine zr_get (pc' := 171) dX12_lineValue_168 rfl ps_102 kd_102 fl_X12_87 kc_12 (gv_102_50 _) ?_
                refine zr_aload_n (pc' := 172) (i := 0) dX12_lineValue_171 rfl rfl rfl ?_
                refine zr_get (pc' := 175) dX12_lineValue_172 rfl ps_102 kd_102 fl_X12_51 kc_12 (gv_102_24 _) ?_
                refine zr_iload (pc' := 177) dX12_lineValue_175 rfl rfl ?_
                refine zr_iald (pc' := 178) dX12_lineValue_177 rfl ps_115 kd_115 (by decide) h.1.1 h.1.2 ?_
                have h := h.2
                refine zr_lald (pc' := 179) dX12_lineValue_178 rfl ps_127 kd_127 (by decide) h.1.1 h.1.2 ?_
                have h := h.2
                refine zn_callS (pc' := 182) (args := [.inl (M 113 ((M 119 (((M 121 l1.toNat) + l5).toNat)).toNat)), .inr (.inl (M 127 ((M 114 ((M 119 (((M 121 l1.toNat) + l5).toNat)).toNat)).toNat))), .inr (.inl (M 127 ((M 115 ((M 119 (((M 121 l1.toNat) + l5).toNat)).toNat)).toNat)))]) (st := []) (st' := fun r1 => [.inr (.inl r1)]) dX12_lineValue_179 rfl cs_X12_394 ⟨rfl, rfl, by decide, by decide⟩ rfl rfl rfl (Nat.le_of_ble_eq_true rfl) (fun _ => rfl) h ?_
                intro r1 M2 h
                refine zr_lstore_n (pc' := 183) (i := 3) (al' := [(3, .inr (.inl r1)), (7, .inl (M 113 ((M 119 (((M 121 l1.toNat) + l5).toNat)).toNat))), (6, .inl (M 119 (((M 121 l1.toNat) + l5).toNat))), (0, .inr (.inr 102)), (1, .inl l1), (2, .inl l2), (5, .inl l5)]) dX12_lineValue_182 rfl rfl (by decide) rfl ?_
                refine zr_lload_n (pc' := 184) (i := 3) dX12_lineValue_183 rfl rfl rfl ?_
                refine zr_ldc2 (pc' := 187) (x := -9223372036854775808) dX12_lineValue_184 rfl ci_X12_375 ?_
                refine zn_lif_ne (tgt := 195) (pc1 := 188) (pc' := 191) dX12_lineValue_187 rfl dX12_lineValue_188 rfl rfl h.1 (zLd rfl) (fun hc => ?_) (fun hc => ?_)
                · have h := h.2.1 hc
                  refine zr_aload_n (pc' := 196) (i := 0) dX12_lineValue_195 rfl rfl rfl ?_
                  refine zr_get (pc' := 199) dX12_lineValue_196 rfl ps_102 kd_102 fl_X12_87 kc_12 (gv_102_50 _) ?_
                  refine zr_iload (pc' := 201) dX12_lineValue_199 rfl rfl ?_
                  refine zr_lload_n (pc' := 202) (i := 3) dX12_lineValue_201 rfl rfl rfl ?_
                  refine zr_last (pc' := 203) dX12_lineValue_202 rfl ps_127 kd_127 (by decide) h.1.1 h.1.2 (fun M3 hM1 => ?_)
                  have h := h.2 M3 hM1
                  refine zr_iinc (pc' := 206) (al' := [(5, .inl (l5 + 1)), (3, .inr (.inl r1)), (7, .inl (M 113 ((M 119 (((M 121 l1.toNat) + l5).toNat)).toNat))), (6, .inl (M 119 (((M 121 l1.toNat) + l5).toNat))), (0, .inr (.inr 102)), (1, .inl l1), (2, .inl l2)]) dX12_lineValue_203 rfl rfl (by decide) rfl ?_
                  refine zr_goto (pc' := 7) dX12_lineValue_206 rfl ?_
                  obtain ⟨n', hn, h⟩ := h
                  exact zn_al ((ih n' hn) _ _ _ _ _ h) ⟨rfl, rfl, rfl, rfl, rfl, trivial⟩
                · have h := h.2.2 hc
                  refine zr_ldc2 (pc' := 194) (x := -9223372036854775808) dX12_lineValue_191 rfl ci_X12_375 ?_
                  exact zr_lreturn dX12_lineValue_194 rfl (Nat.le_refl _) (Nat.le_refl _) (And.intro rfl h)
              · have h := h.2.2 hc
                refine zr_aload_n (pc' := 126) (i := 0) dX12_lineValue_125 rfl rfl rfl ?_
                refine zr_get (pc' := 129) dX12_lineValue_126 rfl ps_102 kd_102 fl_X12_87 kc_12 (gv_102_50 _) ?_
                refine zr_aload_n (pc' := 130) (i := 0) dX12_lineValue_129 rfl rfl rfl ?_
                refine zr_get (pc' := 133) dX12_lineValue_130 rfl ps_102 kd_102 fl_X12_48 kc_12 (gv_102_23 _) ?_
                refine zr_iload (pc' := 135) dX12_lineValue_133 rfl rfl ?_
                refine zr_iald (pc' := 136) dX12_lineValue_135 rfl ps_114 kd_114 (by decide) h.1.1 h.1.2 ?_
                have h := h.2
                refine zr_lald (pc' := 137) dX12_lineValue_136 rfl ps_127 kd_127 (by decide) h.1.1 h.1.2 ?_
                have h := h.2
                refine zr_lconst (pc' := 138) (x := 0) dX12_lineValue_137 rfl rfl ?_
                refine zn_lif_ne (tgt := 146) (pc1 := 139) (pc' := 142) dX12_lineValue_138 rfl dX12_lineValue_139 rfl rfl h.1 (zLd rfl) (fun hc => ?_) (fun hc => ?_)
                · have h := h.2.1 hc
                  refine zr_iconst (pc' := 147) dX12_lineValue_146 rfl ?_
                  refine zn_callS (pc' := 150) (args := [.inl 0]) (st := []) (st' := fun r4 => [.inr (.inl r4)]) dX12_lineValue_147 rfl cs_X12_383 ⟨rfl, rfl, by decide, by decide⟩ rfl rfl rfl (Nat.le_of_ble_eq_true rfl) (fun _ => rfl) h ?_
                  intro r4 M5 h
                  refine zr_goto (pc' := 182) dX12_lineValue_150 rfl ?_
                  refine zr_lstore_n (pc' := 183) (i := 3) (al' := [(3, .inr (.inl r4)), (7, .inl (M 113 ((M 119 (((M 121 l1.toNat) + l5).toNat)).toNat))), (6, .inl (M 119 (((M 121 l1.toNat) + l5).toNat))), (0, .inr (.inr 102)), (1, .inl l1), (2, .inl l2), (5, .inl l5)]) dX12_lineValue_182 rfl rfl (by decide) rfl ?_
                  refine zr_lload_n (pc' := 184) (i := 3) dX12_lineValue_183 rfl rfl rfl ?_
                  refine zr_ldc2 (pc' := 187) (x := -9223372036854775808) dX12_lineValue_184 rfl ci_X12_375 ?_
                  refine zn_lif_ne (tgt := 195) (pc1 := 188) (pc' := 191) dX12_lineValue_187 rfl dX12_lineValue_188 rfl rfl h.1 (zLd rfl) (fun hc => ?_) (fun hc => ?_)
                  · have h := h.2.1 hc
                    refine zr_aload_n (pc' := 196) (i := 0) dX12_lineValue_195 rfl rfl rfl ?_
                    refine zr_get (pc' := 199) dX12_lineValue_196 rfl ps_102 kd_102 fl_X12_87 kc_12 (gv_102_50 _) ?_
                    refine zr_iload (pc' := 201) dX12_lineValue_199 rfl rfl ?_
                    refine zr_lload_n (pc' := 202) (i := 3) dX12_lineValue_201 rfl rfl rfl ?_
                    refine zr_last (pc' := 203) dX12_lineValue_202 rfl ps_127 kd_127 (by decide) h.1.1 h.1.2 (fun M6 hM1 => ?_)
                    have h := h.2 M6 hM1
                    refine zr_iinc (pc' := 206) (al' := [(5, .inl (l5 + 1)), (3, .inr (.inl r4)), (7, .inl (M 113 ((M 119 (((M 121 l1.toNat) + l5).toNat)).toNat))), (6, .inl (M 119 (((M 121 l1.toNat) + l5).toNat))), (0, .inr (.inr 102)), (1, .inl l1), (2, .inl l2)]) dX12_lineValue_203 rfl rfl (by decide) rfl ?_
                    refine zr_goto (pc' := 7) dX12_lineValue_206 rfl ?_
                    obtain ⟨n', hn, h⟩ := h
                    exact zn_al ((ih n' hn) _ _ _ _ _ h) ⟨rfl, rfl, rfl, rfl, rfl, trivial⟩
                  · have h := h.2.2 hc
                    refine zr_ldc2 (pc' := 194) (x := -9223372036854775808) dX12_lineValue_191 rfl ci_X12_375 ?_
                    exact zr_lreturn dX12_lineValue_194 rfl (Nat.le_refl _) (Nat.le_refl _) (And.intro rfl h)
                · have h := h.2.2 hc
                  refine zr_iconst (pc' := 143) dX12_lineValue_142 rfl ?_
                  refine zr_goto (pc' := 147) dX12_lineValue_143 rfl ?_
                  refine zn_callS (pc' := 150) (args := [.inl 1]) (st := []) (st' := fun r7 => [.inr (.inl r7)]) dX12_lineValue_147 rfl cs_X12_383 ⟨rfl, rfl, by decide, by decide⟩ rfl rfl rfl (Nat.le_of_ble_eq_true rfl) (fun _ => rfl) h ?_
                  intro r7 M8 h
                  refine zr_goto (pc' := 182) dX12_lineValue_150 rfl ?_
                  refine zr_lstore_n (pc' := 183) (i := 3) (al' := [(3, .inr (.inl r7)), (7, .inl (M 113 ((M 119 (((M 121 l1.toNat) + l5).toNat)).toNat))), (6, .inl (M 119 (((M 121 l1.toNat) + l5).toNat))), (0, .inr (.inr 102)), (1, .inl l1), (2, .inl l2), (5, .inl l5)]) dX12_lineValue_182 rfl rfl (by decide) rfl ?_
                  refine zr_lload_n (pc' := 184) (i := 3) dX12_lineValue_183 rfl rfl rfl ?_
                  refine zr_ldc2 (pc' := 187) (x := -9223372036854775808) dX12_lineValue_184 rfl ci_X12_375 ?_
                  refine zn_lif_ne (tgt := 195) (pc1 := 188) (pc' := 191) dX12_lineValue_187 rfl dX12_lineValue_188 rfl rfl h.1 (zLd rfl) (fun hc => ?_) (fun hc => ?_)
                  · have h := h.2.1 hc
                    refine zr_aload_n (pc' := 196) (i := 0) dX12_lineValue_195 rfl rfl rfl ?_
                    refine zr_get (pc' := 199) dX12_lineValue_196 rfl ps_102 kd_102 fl_X12_87 kc_12 (gv_102_50 _) ?_
                    refine zr_iload (pc' := 201) dX12_lineValue_199 rfl rfl ?_
                    refine zr_lload_n (pc' := 202) (i := 3) dX12_lineValue_201 rfl rfl rfl ?_
                    refine zr_last (pc' := 203) dX12_lineValue_202 rfl ps_127 kd_127 (by decide) h.1.1 h.1.2 (fun M9 hM1 => ?_)
                    have h := h.2 M9 hM1
                    refine zr_iinc (pc' := 206) (al' := [(5, .inl (l5 + 1)), (3, .inr (.inl r7)), (7, .inl (M 113 ((M 119 (((M 121 l1.toNat) + l5).toNat)).toNat))), (6, .inl (M 119 (((M 121 l1.toNat) + l5).toNat))), (0, .inr (.inr 102)), (1, .inl l1), (2, .inl l2)]) dX12_lineValue_203 rfl rfl (by decide) rfl ?_
                    refine zr_goto (pc' := 7) dX12_lineValue_206 rfl ?_
                    obtain ⟨n', hn, h⟩ := h
                    exact zn_al ((ih n' hn) _ _ _ _ _ h) ⟨rfl, rfl, rfl, rfl, rfl, trivial⟩
                  · have h := h.2.2 hc
                    refine zr_ldc2 (pc' := 194) (x := -9223372036854775808) dX12_lineValue_191 rfl ci_X12_375 ?_
                    exact zr_lreturn dX12_lineValue_194 rfl (Nat.le_refl _) (Nat.le_refl _) (And.intro rfl h)
            · have h := h.2.2 hc
              refine zr_aload_n (pc' := 103) (i := 0) dX12_lineValue_102 rfl rfl rfl ?_
              refine zr_get (pc' := 106) dX12_lineValue_103 rfl ps_102 kd_102 fl_X12_87 kc_12 (gv_102_50 _) ?_
              refine zr_aload_n (pc' := 107) (i := 0) dX12_lineValue_106 rfl rfl rfl ?_
              refine zr_get (pc' := 110) dX12_lineValue_107 rfl ps_102 kd_102 fl_X12_48 kc_12 (gv_102_23 _) ?_
              refine zr_iload (pc' := 112) dX12_lineValue_110 rfl rfl ?_
              refine zr_iald (pc' := 113) dX12_lineValue_112 rfl ps_114 kd_114 (by decide) h.1.1 h.1.2 ?_
              have h := h.2
              refine zr_lald (pc' := 114) dX12_lineValue_113 rfl ps_127 kd_127 (by decide) h.1.1 h.1.2 ?_
              have h := h.2
              refine zr_lneg (pc' := 115) dX12_lineValue_114 rfl ?_
              refine zr_goto (pc' := 182) dX12_lineValue_115 rfl ?_
              refine zr_lstore_n (pc' := 183) (i := 3) (al' := [(3, .inr (.inl (-(M 127 ((M 114 ((M 119 (((M 121 l1.toNat) + l5).toNat)).toNat)).toNat))))), (7, .inl (M 113 ((M 119 (((M 121 l1.toNat) + l5).toNat)).toNat))), (6, .inl (M 119 (((M 121 l1.toNat) + l5).toNat))), (0, .inr (.inr 102)), (1, .inl l1), (2, .inl l2), (5, .inl l5)]) dX12_lineValue_182 rfl rfl (by decide) rfl ?_
              refine zr_lload_n (pc' := 184) (i := 3) dX12_lineValue_183 rfl rfl rfl ?_
              refine zr_ldc2 (pc' := 187) (x := -9223372036854775808) dX12_lineValue_184 rfl ci_X12_375 ?_
              refine zn_lif_ne (tgt := 195) (pc1 := 188) (pc' := 191) dX12_lineValue_187 rfl dX12_lineValue_188 rfl rfl h.1 (zLd rfl) (fun hc => ?_) (fun hc => ?_)
              · have h := h.2.1 hc
                refine zr_aload_n (pc' := 196) (i := 0) dX12_lineValue_195 rfl rfl rfl ?_
                refine zr_get (pc' := 199) dX12_lineValue_196 rfl ps_102 kd_102 fl_X12_87 kc_12 (gv_102_50 _) ?_
                refine zr_iload (pc' := 201) dX12_lineValue_199 rfl rfl ?_
                refine zr_lload_n (pc' := 202) (i := 3) dX12_lineValue_201 rfl rfl rfl ?_
                refine zr_last (pc' := 203) dX12_lineValue_202 rfl ps_127 kd_127 (by decide) h.1.1 h.1.2 (fun M10 hM1 => ?_)
                have h := h.2 M10 hM1
                refine zr_iinc (pc' := 206) (al' := [(5, .inl (l5 + 1)), (3, .inr (.inl (-(M 127 ((M 114 ((M 119 (((M 121 l1.toNat) + l5).toNat)).toNat)).toNat))))), (7, .inl (M 113 ((M 119 (((M 121 l1.toNat) + l5).toNat)).toNat))), (6, .inl (M 119 (((M 121 l1.toNat) + l5).toNat))), (0, .inr (.inr 102)), (1, .inl l1), (2, .inl l2)]) dX12_lineValue_203 rfl rfl (by decide) rfl ?_
                refine zr_goto (pc' := 7) dX12_lineValue_206 rfl ?_
                obtain ⟨n', hn, h⟩ := h
                exact zn_al ((ih n' hn) _ _ _ _ _ h) ⟨rfl, rfl, rfl, rfl, rfl, trivial⟩
              · have h := h.2.2 hc
                refine zr_ldc2 (pc' := 194) (x := -9223372036854775808) dX12_lineValue_191 rfl ci_X12_375 ?_
                exact zr_lreturn dX12_lineValue_194 rfl (Nat.le_refl _) (Nat.le_refl _) (And.intro rfl h)
          · have h := h.2.2 hc
            refine zr_aload_n (pc' := 67) (i := 0) dX12_lineValue_66 rfl rfl rfl ?_
            refine zr_aload_n (pc' := 68) (i := 0) dX12_lineValue_67 rfl rfl rfl ?_
            refine zr_get (pc' := 71) dX12_lineValue_68 rfl ps_102 kd_102 fl_X12_57 kc_12 (gv_102_26 _) ?_
            refine zr_iload (pc' := 73) dX12_lineValue_71 rfl rfl ?_
            refine zr_iald (pc' := 74) dX12_lineValue_73 rfl ps_117 kd_117 (by decide) h.1.1 h.1.2 ?_
            have h := h.2
            refine zr_aload_n (pc' := 75) (i := 0) dX12_lineValue_74 rfl rfl rfl ?_
            refine zr_get (pc' := 78) dX12_lineValue_75 rfl ps_102 kd_102 fl_X12_60 kc_12 (gv_102_27 _) ?_
            refine zr_iload (pc' := 80) dX12_lineValue_78 rfl rfl ?_
            refine zr_iald (pc' := 81) dX12_lineValue_80 rfl ps_118 kd_118 (by decide) h.1.1 h.1.2 ?_
            have h := h.2
            refine zr_aload_n (pc' := 82) (i := 0) dX12_lineValue_81 rfl rfl rfl ?_
            refine zr_get (pc' := 85) dX12_lineValue_82 rfl ps_102 kd_102 fl_X12_54 kc_12 (gv_102_25 _) ?_
            refine zr_iload (pc' := 87) dX12_lineValue_85 rfl rfl ?_
            refine zr_iald (pc' := 88) dX12_lineValue_87 rfl ps_116 kd_116 (by decide) h.1.1 h.1.2 ?_
            have h := h.2
            refine zr_iload_n (pc' := 89) (i := 2) dX12_lineValue_88 rfl rfl rfl ?_
            refine zn_callV (pc' := 92) (args := [.inl (M 117 ((M 119 (((M 121 l1.toNat) + l5).toNat)).toNat)), .inl (M 118 ((M 119 (((M 121 l1.toNat) + l5).toNat)).toNat)), .inl (M 116 ((M 119 (((M 121 l1.toNat) + l5).toNat)).toNat)), .inl l2]) (st := []) (st' := fun r11 => [.inr (.inl r11)]) dX12_lineValue_89 rfl cv_X12_390 ⟨rfl, rfl, by decide, by decide⟩ rfl ps_102 kd_102 rfl rfl (Nat.le_of_ble_eq_true rfl) (fun _ => rfl) h ?_
            intro r11 M12 h
            refine zr_goto (pc' := 182) dX12_lineValue_92 rfl ?_
            refine zr_lstore_n (pc' := 183) (i := 3) (al' := [(3, .inr (.inl r11)), (7, .inl (M 113 ((M 119 (((M 121 l1.toNat) + l5).toNat)).toNat))), (6, .inl (M 119 (((M 121 l1.toNat) + l5).toNat))), (0, .inr (.inr 102)), (1, .inl l1), (2, .inl l2), (5, .inl l5)]) dX12_lineValue_182 rfl rfl (by decide) rfl ?_
            refine zr_lload_n (pc' := 184) (i := 3) dX12_lineValue_183 rfl rfl rfl ?_
            refine zr_ldc2 (pc' := 187) (x := -9223372036854775808) dX12_lineValue_184 rfl ci_X12_375 ?_
            refine zn_lif_ne (tgt := 195) (pc1 := 188) (pc' := 191) dX12_lineValue_187 rfl dX12_lineValue_188 rfl rfl h.1 (zLd rfl) (fun hc => ?_) (fun hc => ?_)
            · have h := h.2.1 hc
              refine zr_aload_n (pc' := 196) (i := 0) dX12_lineValue_195 rfl rfl rfl ?_
              refine zr_get (pc' := 199) dX12_lineValue_196 rfl ps_102 kd_102 fl_X12_87 kc_12 (gv_102_50 _) ?_
              refine zr_iload (pc' := 201) dX12_lineValue_199 rfl rfl ?_
              refine zr_lload_n (pc' := 202) (i := 3) dX12_lineValue_201 rfl rfl rfl ?_
              refine zr_last (pc' := 203) dX12_lineValue_202 rfl ps_127 kd_127 (by decide) h.1.1 h.1.2 (fun M13 hM1 => ?_)
              have h := h.2 M13 hM1
              refine zr_iinc (pc' := 206) (al' := [(5, .inl (l5 + 1)), (3, .inr (.inl r11)), (7, .inl (M 113 ((M 119 (((M 121 l1.toNat) + l5).toNat)).toNat))), (6, .inl (M 119 (((M 121 l1.toNat) + l5).toNat))), (0, .inr (.inr 102)), (1, .inl l1), (2, .inl l2)]) dX12_lineValue_203 rfl rfl (by decide) rfl ?_
              refine zr_goto (pc' := 7) dX12_lineValue_206 rfl ?_
              obtain ⟨n', hn, h⟩ := h
              exact zn_al ((ih n' hn) _ _ _ _ _ h) ⟨rfl, rfl, rfl, rfl, rfl, trivial⟩
            · have h := h.2.2 hc
              refine zr_ldc2 (pc' := 194) (x := -9223372036854775808) dX12_lineValue_191 rfl ci_X12_375 ?_
              exact zr_lreturn dX12_lineValue_194 rfl (Nat.le_refl _) (Nat.le_refl _) (And.intro rfl h)
        · have h := h.2.2 hc
          refine zr_aload_n (pc' := 49) (i := 0) dX12_lineValue_48 rfl rfl rfl ?_
          refine zr_get (pc' := 52) dX12_lineValue_49 rfl ps_102 kd_102 fl_X12_54 kc_12 (gv_102_25 _) ?_
          refine zr_iload (pc' := 54) dX12_lineValue_52 rfl rfl ?_
          refine zr_iald (pc' := 55) dX12_lineValue_54 rfl ps_116 kd_116 (by decide) h.1.1 h.1.2 ?_
          have h := h.2
          refine zr_i2l (pc' := 56) dX12_lineValue_55 rfl h.1 ?_
          have h := h.2
          refine zr_goto (pc' := 182) dX12_lineValue_56 rfl ?_
          refine zr_lstore_n (pc' := 183) (i := 3) (al' := [(3, .inr (.inl (M 116 ((M 119 (((M 121 l1.toNat) + l5).toNat)).toNat)))), (7, .inl (M 113 ((M 119 (((M 121 l1.toNat) + l5).toNat)).toNat))), (6, .inl (M 119 (((M 121 l1.toNat) + l5).toNat))), (0, .inr (.inr 102)), (1, .inl l1), (2, .inl l2), (5, .inl l5)]) dX12_lineValue_182 rfl rfl (by decide) rfl ?_
          refine zr_lload_n (pc' := 184) (i := 3) dX12_lineValue_183 rfl rfl rfl ?_
          refine zr_ldc2 (pc' := 187) (x := -9223372036854775808) dX12_lineValue_184 rfl ci_X12_375 ?_
          refine zn_lif_ne (tgt := 195) (pc1 := 188) (pc' := 191) dX12_lineValue_187 rfl dX12_lineValue_188 rfl rfl h.1 (zLd rfl) (fun hc => ?_) (fun hc => ?_)
          · have h := h.2.1 hc
            refine zr_aload_n (pc' := 196) (i := 0) dX12_lineValue_195 rfl rfl rfl ?_
            refine zr_get (pc' := 199) dX12_lineValue_196 rfl ps_102 kd_102 fl_X12_87 kc_12 (gv_102_50 _) ?_
            refine zr_iload (pc' := 201) dX12_lineValue_199 rfl rfl ?_
            refine zr_lload_n (pc' := 202) (i := 3) dX12_lineValue_201 rfl rfl rfl ?_
            refine zr_last (pc' := 203) dX12_lineValue_202 rfl ps_127 kd_127 (by decide) h.1.1 h.1.2 (fun M14 hM1 => ?_)
            have h := h.2 M14 hM1
            refine zr_iinc (pc' := 206) (al' := [(5, .inl (l5 + 1)), (3, .inr (.inl (M 116 ((M 119 (((M 121 l1.toNat) + l5).toNat)).toNat)))), (7, .inl (M 113 ((M 119 (((M 121 l1.toNat) + l5).toNat)).toNat))), (6, .inl (M 119 (((M 121 l1.toNat) + l5).toNat))), (0, .inr (.inr 102)), (1, .inl l1), (2, .inl l2)]) dX12_lineValue_203 rfl rfl (by decide) rfl ?_
            refine zr_goto (pc' := 7) dX12_lineValue_206 rfl ?_
            obtain ⟨n', hn, h⟩ := h
            exact zn_al ((ih n' hn) _ _ _ _ _ h) ⟨rfl, rfl, rfl, rfl, rfl, trivial⟩
          · have h := h.2.2 hc
            refine zr_ldc2 (pc' := 194) (x := -9223372036854775808) dX12_lineValue_191 rfl ci_X12_375 ?_
            exact zr_lreturn dX12_lineValue_194 rfl (Nat.le_refl _) (Nat.le_refl _) (And.intro rfl h)
  refine zP_of (by decide +kernel) rfl (Nat.le_of_ble_eq_true rfl) ?_
  show zA E zNN (0, 0) mX12_lineValue 0 [(0, .inr (.inr 102)), (1, .inl l1), (2, .inl l2)] [] M (zQ Q)
  refine zr_ldc2 (pc' := 3) (x := -9223372036854775808) dX12_lineValue_0 rfl ci_X12_375 ?_
  refine zr_lstore_n (pc' := 4) (i := 3) (al' := [(3, .inr (.inl (-9223372036854775808))), (0, .inr (.inr 102)), (1, .inl l1), (2, .inl l2)]) dX12_lineValue_3 rfl rfl (by decide) rfl ?_
  refine zr_iconst (pc' := 5) dX12_lineValue_4 rfl ?_
  refine zr_istore (pc' := 7) (al' := [(5, .inl 0), (3, .inr (.inl (-9223372036854775808))), (0, .inr (.inr 102)), (1, .inl l1), (2, .inl l2)]) dX12_lineValue_5 rfl (by decide) rfl ?_
  obtain ⟨n', h⟩ := h
  exact zn_al ((key n') _ _ _ _ _ h) ⟨rfl, rfl, rfl, rfl, rfl, trivial⟩
set_option maxRecDepth 20000 in
theorem vcX12_rawOf {E : zE} {M : zM} {Q : Int → zM → Prop} (l1 l2 : Int) (I10 : Nat → Int → Int → Int → zM → Prop)
    (h : (zP E mX12_know [.inr (.inr 102), .inl l2] M (fun r1 M2 => ∃ n', I10 n' l1 0 0 M2)))
    (h10 : ∀ (n : Nat) (l1 l3 l4 : Int) (M : zM), I10 n l1 l3 l4 M → ((zR l4 ∧ zR (M 102 32)) ∧ (((M 102 32) ≤ l4 → Q l3 M) ∧ (l4 < (M 102 32) → (zP E mX12_lineValue [.inr (.inr 102), .inl l4, .inl l1] M (fun r3 M4 => ((zL r3) ∧ ((r3 = (-9223372036854775808) → ∃ n', n' < n ∧ I10 n' l1 l3 (l4 + 1) M4) ∧ (¬ r3 = (-9223372036854775808) → ((zL r3) ∧ ((r3 = 0 → ∃ n', n' < n ∧ I10 n' l1 l3 (l4 + 1) M4) ∧ (¬ r3 = 0 → (0 ≤ l4 ∧ l4 < 24) ∧ ((zR (M4 120 l4.toNat) ∧ zR l3) ∧ (((M4 120 l4.toNat) ≤ l3 → ∃ n', n' < n ∧ I10 n' l1 l3 (l4 + 1) M4) ∧ (l3 < (M4 120 l4.toNat) → (0 ≤ l4 ∧ l4 < 24) ∧ ∃ n', n' < n ∧ I10 n' l1 (M4 120 l4.toNat) (l4 + 1) M4)))))))))))))))
    : zP E mX12_rawOf [.inr (.inr 102), .inl l1, .inl l2] M Q := by
  have key : ∀ n : Nat, (∀ (l1 l3 l4 : Int) (M : zM), I10 n l1 l3 l4 M → zA E zNN (0, 0) mX12_rawOf 10 [(0, .inr (.inr 102)), (1, .inl l1), (3, .inl l3), (4, .inl l4)] [] M (zQ Q)) := by
    intro n
    induction n using Nat.strongRecOn with
    | ind n ih =>
      intro l1 l3 l4 M h
      have h := h10 n l1 l3 l4 M h
      refine zr_iload (pc' := 12) dX12_rawOf_10 rfl rfl ?_
      refine zr_aload_n (pc' := 13) (i := 0) dX12_rawOf_12 rfl rfl rfl ?_
      refine zr_get (pc' := 16) dX12_rawOf_13 rfl ps_102 kd_102 fl_X12_366 kc_12 (gv_102_32 _) ?_
      refine zr_icmp_ge (tgt := 69) (pc' := 19) dX12_rawOf_16 rfl rfl h.1.1 h.1.2 (fun hc => ?_) (fun hc => ?_)
      · have h := h.2.1 hc
        refine zr_iload_n (pc' := 70) (i := 3) dX12_rawOf_69 rfl rfl rfl ?_
        exact zr_ireturn dX12_rawOf_70 rfl rfl trivial (Nat.le_refl _) (Nat.le_refl _) (And.intro rfl h)
      · have h := h.2.2 hc
        refine zr_aload_n (pc' := 20) (i := 0) dX12_rawOf_19 rfl rfl rfl ?_
        refine zr_iload (pc' := 22) dX12_rawOf_20 rfl rfl ?_
        refine zr_iload_n (pc' := 23) (i := 1) dX12_rawOf_22 rfl rfl rfl ?_
        refine zn_callV (pc' := 26) (args := [.inl l4, .inl l1]) (st := []) (st' := fun r3 => [.inr (.inl r3)]) dX12_rawOf_23 rfl cv_X12_398 ⟨rfl, rfl, by decide, by decide⟩ rfl ps_102 kd_102 rfl rfl (Nat.le_of_ble_eq_true rfl) (fun _ => rfl) h ?_
        intro r3 M4 h
        refine zr_lstore (pc' := 28) (al' := [(5, .inr (.inl r3)), (0, .inr (.inr 102)), (1, .inl l1), (3, .inl l3), (4, .inl l4)]) dX12_rawOf_26 rfl (by decide) rfl ?_
        refine zr_lload (pc' := 30) dX12_rawOf_28 rfl rfl ?_
        refine zr_ldc2 (pc' := 33) (x := -9223372036854775808) dX12_rawOf_30 rfl ci_X12_375 ?_
        refine zn_lif_eq (tgt := 63) (pc1 := 34) (pc' := 37) dX12_rawOf_33 rfl dX12_rawOf_34 rfl rfl h.1 (zLd rfl) (fun hc => ?_) (fun hc => ?_)
        · have h := h.2.1 hc
          refine zr_iinc (pc' := 66) (al' := [(4, .inl (l4 + 1)), (5, .inr (.inl r3)), (0, .inr (.inr 102)), (1, .inl l1), (3, .inl l3)]) dX12_rawOf_63 rfl rfl (by decide) rfl ?_
          refine zr_goto (pc' := 10) dX12_rawOf_66 rfl ?_
          obtain ⟨n', hn, h⟩ := h
          exact zn_al ((ih n' hn) _ _ _ _ h) ⟨rfl, rfl, rfl, rfl, trivial⟩
        · have h := h.2.2 hc
          refine zr_lload (pc' := 39) dX12_rawOf_37 rfl rfl ?_
          refine zr_lconst (pc' := 40) (x := 0) dX12_rawOf_39 rfl rfl ?_
          refine zn_lif_eq (tgt := 63) (pc1 := 41) (pc' := 44) dX12_rawOf_40 rfl dX12_rawOf_41 rfl rfl h.1 (zLd rfl) (fun hc => ?_) (fun hc => ?_)
          · have h := h.2.1 hc
            refine zr_iinc (pc' := 66) (al' := [(4, .inl (l4 + 1)), (5, .inr (.inl r3)), (0, .inr (.inr 102)), (1, .inl l1), (3, .inl l3)]) dX12_rawOf_63 rfl rfl (by decide) rfl ?_
            refine zr_goto (pc' := 10) dX12_rawOf_66 rfl ?_
            obtain ⟨n', hn, h⟩ := h
            exact zn_al ((ih n' hn) _ _ _ _ h) ⟨rfl, rfl, rfl, rfl, trivial⟩
          · have h := h.2.2 hc
            refine zr_aload_n (pc' := 45) (i := 0) dX12_rawOf_44 rfl rfl rfl ?_
            refine zr_get (pc' := 48) dX12_rawOf_45 rfl ps_102 kd_102 fl_X12_66 kc_12 (gv_102_29 _) ?_
            refine zr_iload (pc' := 50) dX12_rawOf_48 rfl rfl ?_
            refine zr_iald (pc' := 51) dX12_rawOf_50 rfl ps_120 kd_120 (by decide) h.1.1 h.1.2 ?_
            have h := h.2
            refine zr_iload_n (pc' := 52) (i := 3) dX12_rawOf_51 rfl rfl rfl ?_
            refine zr_icmp_le (tgt := 63) (pc' := 55) dX12_rawOf_52 rfl rfl h.1.1 h.1.2 (fun hc => ?_) (fun hc => ?_)
            · have h := h.2.1 hc
              refine zr_iinc (pc' := 66) (al' := [(4, .inl (l4 + 1)), (5, .inr (.inl r3)), (0, .inr (.inr 102)), (1, .inl l1), (3, .inl l3)]) dX12_rawOf_63 rfl rfl (by decide) rfl ?_
              refine zr_goto (pc' := 10) dX12_rawOf_66 rfl ?_
              obtain ⟨n', hn, h⟩ := h
              exact zn_al ((ih n' hn) _ _ _ _ h) ⟨rfl, rfl, rfl, rfl, trivial⟩
            · have h := h.2.2 hc
              refine zr_aload_n (pc' := 56) (i := 0) dX12_rawOf_55 rfl rfl rfl ?_
              refine zr_get (pc' := 59) dX12_rawOf_56 rfl ps_102 kd_102 fl_X12_66 kc_12 (gv_102_29 _) ?_
              refine zr_iload (pc' := 61) dX12_rawOf_59 rfl rfl ?_
              refine zr_iald (pc' := 62) dX12_rawOf_61 rfl ps_120 kd_120 (by decide) h.1.1 h.1.2 ?_
              have h := h.2
              refine zr_istore_n (pc' := 63) (i := 3) (al' := [(3, .inl (M4 120 l4.toNat)), (5, .inr (.inl r3)), (0, .inr (.inr 102)), (1, .inl l1), (4, .inl l4)]) dX12_rawOf_62 rfl rfl (by decide) rfl ?_
              refine zr_iinc (pc' := 66) (al' := [(4, .inl (l4 + 1)), (3, .inl (M4 120 l4.toNat)), (5, .inr (.inl r3)), (0, .inr (.inr 102)), (1, .inl l1)]) dX12_rawOf_63 rfl rfl (by decide) rfl ?_
              refine zr_goto (pc' := 10) dX12_rawOf_66 rfl ?_
              obtain ⟨n', hn, h⟩ := h
              exact zn_al ((ih n' hn) _ _ _ _ h) ⟨rfl, rfl, rfl, rfl, trivial⟩
  refine zP_of (by decide +kernel) rfl (Nat.le_of_ble_eq_true rfl) ?_
  show zA E zNN (0, 0) mX12_rawOf 0 [(0, .inr (.inr 102)), (1, .inl l1), (2, .inl l2)] [] M (zQ Q)
  refine zr_aload_n (pc' := 1) (i := 0) dX12_rawOf_0 rfl rfl rfl ?_
  refine zr_iload_n (pc' := 2) (i := 2) dX12_rawOf_1 rfl rfl rfl ?_
  refine zn_callV (pc' := 5) (args := [.inl l2]) (st := []) (st' := fun _ => []) dX12_rawOf_2 rfl cv_X12_234 ⟨rfl, rfl, by decide, by decide⟩ rfl ps_102 kd_102 rfl rfl (Nat.le_of_ble_eq_true rfl) (fun _ => rfl) h ?_
  intro r1 M2 h
  refine zr_iconst (pc' := 6) dX12_rawOf_5 rfl ?_
  refine zr_istore_n (pc' := 7) (i := 3) (al' := [(3, .inl 0), (0, .inr (.inr 102)), (1, .inl l1), (2, .inl l2)]) dX12_rawOf_6 rfl rfl (by decide) rfl ?_
  refine zr_iconst (pc' := 8) dX12_rawOf_7 rfl ?_
  refine zr_istore (pc' := 10) (al' := [(4, .inl 0), (3, .inl 0), (0, .inr (.inr 102)), (1, .inl l1), (2, .inl l2)]) dX12_rawOf_8 rfl (by decide) rfl ?_
  obtain ⟨n', h⟩ := h
  exact zn_al ((key n') _ _ _ _ h) ⟨rfl, rfl, rfl, rfl, trivial⟩
set_option maxRecDepth 20000 in
theorem vcX12_raw {E : zE} {M : zM} {Q : Int → zM → Prop} (l1 l2 : Int)
    (h : (∀ M1, M1 = zup M 102 2 0 → (zP E mX12_isHour [.inl l1] M1 (fun r2 M3 => ((zR r2) ∧ ((r2 = 0 → Q (-1) M3) ∧ (¬ r2 = 0 → (zP E mX12_isHour [.inl l2] M3 (fun r4 M5 => ((zR r4) ∧ ((r4 = 0 → Q (-1) M5) ∧ (¬ r4 = 0 → (zP E mX12_rawOf [.inr (.inr 102), .inl l1, .inl l2] M5 (fun r6 M7 => Q r6 M7))))))))))))))
    : zP E mX12_raw [.inr (.inr 102), .inl l1, .inl l2] M Q := by
  refine zP_of (by decide +kernel) rfl (Nat.le_of_ble_eq_true rfl) ?_
  show zA E zNN (0, 0) mX12_raw 0 [(0, .inr (.inr 102)), (1, .inl l1), (2, .inl l2)] [] M (zQ Q)
  refine zr_aload_n (pc' := 1) (i := 0) dX12_raw_0 rfl rfl rfl ?_
  refine zr_iconst (pc' := 2) dX12_raw_1 rfl ?_
  refine zr_put (pc' := 5) dX12_raw_2 rfl ps_102 kd_102 fl_X12_208 kc_12 rfl nf_102_2 rfl trivial (fun M1 hM1 => ?_)
  have h := h M1 hM1
  refine zr_iload_n (pc' := 6) (i := 1) dX12_raw_5 rfl rfl rfl ?_
  refine zn_callS (pc' := 9) (args := [.inl l1]) (st := []) (st' := fun r2 => [.inl r2]) dX12_raw_6 rfl cs_X12_231 ⟨rfl, rfl, by decide, by decide⟩ rfl rfl rfl (Nat.le_of_ble_eq_true rfl) (fun _ => rfl) h ?_
  intro r2 M3 h
  refine zr_if_eq (tgt := 28) (pc' := 12) dX12_raw_9 rfl rfl h.1 (fun hc => ?_) (fun hc => ?_)
  · have h := h.2.1 hc
    refine zr_iconst (pc' := 29) dX12_raw_28 rfl ?_
    exact zr_ireturn dX12_raw_29 rfl rfl trivial (Nat.le_refl _) (Nat.le_refl _) (And.intro rfl h)
  · have h := h.2.2 hc
    refine zr_iload_n (pc' := 13) (i := 2) dX12_raw_12 rfl rfl rfl ?_
    refine zn_callS (pc' := 16) (args := [.inl l2]) (st := []) (st' := fun r4 => [.inl r4]) dX12_raw_13 rfl cs_X12_231 ⟨rfl, rfl, by decide, by decide⟩ rfl rfl rfl (Nat.le_of_ble_eq_true rfl) (fun _ => rfl) h ?_
    intro r4 M5 h
    refine zr_if_eq (tgt := 28) (pc' := 19) dX12_raw_16 rfl rfl h.1 (fun hc => ?_) (fun hc => ?_)
    · have h := h.2.1 hc
      refine zr_iconst (pc' := 29) dX12_raw_28 rfl ?_
      exact zr_ireturn dX12_raw_29 rfl rfl trivial (Nat.le_refl _) (Nat.le_refl _) (And.intro rfl h)
    · have h := h.2.2 hc
      refine zr_aload_n (pc' := 20) (i := 0) dX12_raw_19 rfl rfl rfl ?_
      refine zr_iload_n (pc' := 21) (i := 1) dX12_raw_20 rfl rfl rfl ?_
      refine zr_iload_n (pc' := 22) (i := 2) dX12_raw_21 rfl rfl rfl ?_
      refine zn_callV (pc' := 25) (args := [.inl l1, .inl l2]) (st := []) (st' := fun r6 => [.inl r6]) dX12_raw_22 rfl cv_X12_402 ⟨rfl, rfl, by decide, by decide⟩ rfl ps_102 kd_102 rfl rfl (Nat.le_of_ble_eq_true rfl) (fun _ => rfl) h ?_
      intro r6 M7 h
      refine zr_goto (pc' := 29) dX12_raw_25 rfl ?_
      exact zr_ireturn dX12_raw_29 rfl rfl trivial (Nat.le_refl _) (Nat.le_refl _) (And.intro rfl h)
set_option maxRecDepth 20000 in
theorem vcX12_tries {E : zE} {M : zM} {Q : Int → zM → Prop} (l1 l2 l3 : Int)
    (h : (∀ M1, M1 = zup M 102 2 0 → ((zR l1) ∧ ((l1 < 0 → Q (-9223372036854775808) M1) ∧ (0 ≤ l1 → ((zR l1 ∧ zR (M1 102 32)) ∧ (((M1 102 32) ≤ l1 → Q (-9223372036854775808) M1) ∧ (l1 < (M1 102 32) → (zP E mX12_isHour [.inl l2] M1 (fun r2 M3 => ((zR r2) ∧ ((r2 = 0 → Q (-9223372036854775808) M3) ∧ (¬ r2 = 0 → (zP E mX12_isHour [.inl l3] M3 (fun r4 M5 => ((zR r4) ∧ ((¬ r4 = 0 → (zP E mX12_know [.inr (.inr 102), .inl l3] M5 (fun r6 M7 => (zP E mX12_lineValue [.inr (.inr 102), .inl l1, .inl l2] M7 (fun r8 M9 => Q r8 M9))))) ∧ (r4 = 0 → Q (-9223372036854775808) M5))))))))))))))))))
    : zP E mX12_tries [.inr (.inr 102), .inl l1, .inl l2, .inl l3] M Q := by
  refine zP_of (by decide +kernel) rfl (Nat.le_of_ble_eq_true rfl) ?_
  show zA E zNN (0, 0) mX12_tries 0 [(0, .inr (.inr 102)), (1, .inl l1), (2, .inl l2), (3, .inl l3)] [] M (zQ Q)
  refine zr_aload_n (pc' := 1) (i := 0) dX12_tries_0 rfl rfl rfl ?_
  refine zr_iconst (pc' := 2) dX12_tries_1 rfl ?_
  refine zr_put (pc' := 5) dX12_tries_2 rfl ps_102 kd_102 fl_X12_208 kc_12 rfl nf_102_2 rfl trivial (fun M1 hM1 => ?_)
  have h := h M1 hM1
  refine zr_iload_n (pc' := 6) (i := 1) dX12_tries_5 rfl rfl rfl ?_
  refine zr_if_lt (tgt := 31) (pc' := 9) dX12_tries_6 rfl rfl h.1 (fun hc => ?_) (fun hc => ?_)
  · have h := h.2.1 hc
    refine zr_ldc2 (pc' := 34) (x := -9223372036854775808) dX12_tries_31 rfl ci_X12_375 ?_
    exact zr_lreturn dX12_tries_34 rfl (Nat.le_refl _) (Nat.le_refl _) (And.intro rfl h)
  · have h := h.2.2 hc
    refine zr_iload_n (pc' := 10) (i := 1) dX12_tries_9 rfl rfl rfl ?_
    refine zr_aload_n (pc' := 11) (i := 0) dX12_tries_10 rfl rfl rfl ?_
    refine zr_get (pc' := 14) dX12_tries_11 rfl ps_102 kd_102 fl_X12_366 kc_12 (gv_102_32 _) ?_
    refine zr_icmp_ge (tgt := 31) (pc' := 17) dX12_tries_14 rfl rfl h.1.1 h.1.2 (fun hc => ?_) (fun hc => ?_)
    · have h := h.2.1 hc
      refine zr_ldc2 (pc' := 34) (x := -9223372036854775808) dX12_tries_31 rfl ci_X12_375 ?_
      exact zr_lreturn dX12_tries_34 rfl (Nat.le_refl _) (Nat.le_refl _) (And.intro rfl h)
    · have h := h.2.2 hc
      refine zr_iload_n (pc' := 18) (i := 2) dX12_tries_17 rfl rfl rfl ?_
      refine zn_callS (pc' := 21) (args := [.inl l2]) (st := []) (st' := fun r2 => [.inl r2]) dX12_tries_18 rfl cs_X12_231 ⟨rfl, rfl, by decide, by decide⟩ rfl rfl rfl (Nat.le_of_ble_eq_true rfl) (fun _ => rfl) h ?_
      intro r2 M3 h
      refine zr_if_eq (tgt := 31) (pc' := 24) dX12_tries_21 rfl rfl h.1 (fun hc => ?_) (fun hc => ?_)
      · have h := h.2.1 hc
        refine zr_ldc2 (pc' := 34) (x := -9223372036854775808) dX12_tries_31 rfl ci_X12_375 ?_
        exact zr_lreturn dX12_tries_34 rfl (Nat.le_refl _) (Nat.le_refl _) (And.intro rfl h)
      · have h := h.2.2 hc
        refine zr_iload_n (pc' := 25) (i := 3) dX12_tries_24 rfl rfl rfl ?_
        refine zn_callS (pc' := 28) (args := [.inl l3]) (st := []) (st' := fun r4 => [.inl r4]) dX12_tries_25 rfl cs_X12_231 ⟨rfl, rfl, by decide, by decide⟩ rfl rfl rfl (Nat.le_of_ble_eq_true rfl) (fun _ => rfl) h ?_
        intro r4 M5 h
        refine zr_if_ne (tgt := 35) (pc' := 31) dX12_tries_28 rfl rfl h.1 (fun hc => ?_) (fun hc => ?_)
        · have h := h.2.1 hc
          refine zr_aload_n (pc' := 36) (i := 0) dX12_tries_35 rfl rfl rfl ?_
          refine zr_iload_n (pc' := 37) (i := 3) dX12_tries_36 rfl rfl rfl ?_
          refine zn_callV (pc' := 40) (args := [.inl l3]) (st := []) (st' := fun _ => []) dX12_tries_37 rfl cv_X12_234 ⟨rfl, rfl, by decide, by decide⟩ rfl ps_102 kd_102 rfl rfl (Nat.le_of_ble_eq_true rfl) (fun _ => rfl) h ?_
          intro r6 M7 h
          refine zr_aload_n (pc' := 41) (i := 0) dX12_tries_40 rfl rfl rfl ?_
          refine zr_iload_n (pc' := 42) (i := 1) dX12_tries_41 rfl rfl rfl ?_
          refine zr_iload_n (pc' := 43) (i := 2) dX12_tries_42 rfl rfl rfl ?_
          refine zn_callV (pc' := 46) (args := [.inl l1, .inl l2]) (st := []) (st' := fun r8 => [.inr (.inl r8)]) dX12_tries_43 rfl cv_X12_398 ⟨rfl, rfl, by decide, by decide⟩ rfl ps_102 kd_102 rfl rfl (Nat.le_of_ble_eq_true rfl) (fun _ => rfl) h ?_
          intro r8 M9 h
          exact zr_lreturn dX12_tries_46 rfl (Nat.le_refl _) (Nat.le_refl _) (And.intro rfl h)
        · have h := h.2.2 hc
          refine zr_ldc2 (pc' := 34) (x := -9223372036854775808) dX12_tries_31 rfl ci_X12_375 ?_
          exact zr_lreturn dX12_tries_34 rfl (Nat.le_refl _) (Nat.le_refl _) (And.intro rfl h)
set_option maxRecDepth 20000 in
theorem vcX12_levelAt {E : zE} {M : zM} {Q : Int → zM → Prop} (l1 : Int) (I22 : Nat → Int → Int → Int → zM → Prop)
    (h : ((zR (l1 - (M 102 34))) ∧ ((0 ≤ (l1 - (M 102 34)) → ∃ n', I22 n' l1 0 (l1 - (M 102 34)) M) ∧ ((l1 - (M 102 34)) < 0 → ∃ n', I22 n' l1 0 0 M))))
    (h22 : ∀ (n : Nat) (l1 l2 l3 : Int) (M : zM), I22 n l1 l2 l3 M → ((zR l3 ∧ zR l1) ∧ ((l1 < l3 → Q l2 M) ∧ (l3 ≤ l1 → (zP E mX12_rawOf [.inr (.inr 102), .inl l3, .inl l3] M (fun r1 M2 => ((zR r1 ∧ zR l2) ∧ ((r1 ≤ l2 → ∃ n', n' < n ∧ I22 n' l1 l2 (l3 + 1) M2) ∧ (l2 < r1 → ∃ n', n' < n ∧ I22 n' l1 r1 (l3 + 1) M2)))))))))
    : zP E mX12_levelAt [.inr (.inr 102), .inl l1] M Q := by
  have key : ∀ n : Nat, (∀ (l1 l2 l3 : Int) (M : zM), I22 n l1 l2 l3 M → zA E zNN (0, 0) mX12_levelAt 22 [(0, .inr (.inr 102)), (1, .inl l1), (2, .inl l2), (3, .inl l3)] [] M (zQ Q)) := by
    intro n
    induction n using Nat.strongRecOn with
    | ind n ih =>
      intro l1 l2 l3 M h
      have h := h22 n l1 l2 l3 M h
      refine zr_iload_n (pc' := 23) (i := 3) dX12_levelAt_22 rfl rfl rfl ?_
      refine zr_iload_n (pc' := 24) (i := 1) dX12_levelAt_23 rfl rfl rfl ?_
      refine zr_icmp_gt (tgt := 54) (pc' := 27) dX12_levelAt_24 rfl rfl h.1.1 h.1.2 (fun hc => ?_) (fun hc => ?_)
      · have h := h.2.1 hc
        refine zr_iload_n (pc' := 55) (i := 2) dX12_levelAt_54 rfl rfl rfl ?_
        exact zr_ireturn dX12_levelAt_55 rfl rfl trivial (Nat.le_refl _) (Nat.le_refl _) (And.intro rfl h)
      · have h := h.2.2 hc
        refine zr_aload_n (pc' := 28) (i := 0) dX12_levelAt_27 rfl rfl rfl ?_
        refine zr_iload_n (pc' := 29) (i := 3) dX12_levelAt_28 rfl rfl rfl ?_
        refine zr_iload_n (pc' := 30) (i := 3) dX12_levelAt_29 rfl rfl rfl ?_
        refine zn_callV (pc' := 33) (args := [.inl l3, .inl l3]) (st := []) (st' := fun r1 => [.inl r1]) dX12_levelAt_30 rfl cv_X12_402 ⟨rfl, rfl, by decide, by decide⟩ rfl ps_102 kd_102 rfl rfl (Nat.le_of_ble_eq_true rfl) (fun _ => rfl) h ?_
        intro r1 M2 h
        refine zr_istore (pc' := 35) (al' := [(4, .inl r1), (0, .inr (.inr 102)), (1, .inl l1), (2, .inl l2), (3, .inl l3)]) dX12_levelAt_33 rfl (by decide) rfl ?_
        refine zr_iload (pc' := 37) dX12_levelAt_35 rfl rfl ?_
        refine zr_iload_n (pc' := 38) (i := 2) dX12_levelAt_37 rfl rfl rfl ?_
        refine zr_icmp_le (tgt := 46) (pc' := 41) dX12_levelAt_38 rfl rfl h.1.1 h.1.2 (fun hc => ?_) (fun hc => ?_)
        · have h := h.2.1 hc
          refine zr_iload_n (pc' := 47) (i := 2) dX12_levelAt_46 rfl rfl rfl ?_
          refine zr_istore_n (pc' := 48) (i := 2) (al' := [(2, .inl l2), (4, .inl r1), (0, .inr (.inr 102)), (1, .inl l1), (3, .inl l3)]) dX12_levelAt_47 rfl rfl (by decide) rfl ?_
          refine zr_iinc (pc' := 51) (al' := [(3, .inl (l3 + 1)), (2, .inl l2), (4, .inl r1), (0, .inr (.inr 102)), (1, .inl l1)]) dX12_levelAt_48 rfl rfl (by decide) rfl ?_
          refine zr_goto (pc' := 22) dX12_levelAt_51 rfl ?_
          obtain ⟨n', hn, h⟩ := h
          exact zn_al ((ih n' hn) _ _ _ _ h) ⟨rfl, rfl, rfl, rfl, trivial⟩
        · have h := h.2.2 hc
          refine zr_iload (pc' := 43) dX12_levelAt_41 rfl rfl ?_
          refine zr_goto (pc' := 47) dX12_levelAt_43 rfl ?_
          refine zr_istore_n (pc' := 48) (i := 2) (al' := [(2, .inl r1), (4, .inl r1), (0, .inr (.inr 102)), (1, .inl l1), (3, .inl l3)]) dX12_levelAt_47 rfl rfl (by decide) rfl ?_
          refine zr_iinc (pc' := 51) (al' := [(3, .inl (l3 + 1)), (2, .inl r1), (4, .inl r1), (0, .inr (.inr 102)), (1, .inl l1)]) dX12_levelAt_48 rfl rfl (by decide) rfl ?_
          refine zr_goto (pc' := 22) dX12_levelAt_51 rfl ?_
          obtain ⟨n', hn, h⟩ := h
          exact zn_al ((ih n' hn) _ _ _ _ h) ⟨rfl, rfl, rfl, rfl, trivial⟩
  refine zP_of (by decide +kernel) rfl (Nat.le_of_ble_eq_true rfl) ?_
  show zA E zNN (0, 0) mX12_levelAt 0 [(0, .inr (.inr 102)), (1, .inl l1)] [] M (zQ Q)
  refine zr_iconst (pc' := 1) dX12_levelAt_0 rfl ?_
  refine zr_istore_n (pc' := 2) (i := 2) (al' := [(2, .inl 0), (0, .inr (.inr 102)), (1, .inl l1)]) dX12_levelAt_1 rfl rfl (by decide) rfl ?_
  refine zr_iload_n (pc' := 3) (i := 1) dX12_levelAt_2 rfl rfl rfl ?_
  refine zr_aload_n (pc' := 4) (i := 0) dX12_levelAt_3 rfl rfl rfl ?_
  refine zr_get (pc' := 7) dX12_levelAt_4 rfl ps_102 kd_102 fl_X12_369 kc_12 (gv_102_34 _) ?_
  refine zr_isub (pc' := 8) dX12_levelAt_7 rfl ?_
  refine zr_if_ge (tgt := 15) (pc' := 11) dX12_levelAt_8 rfl rfl h.1 (fun hc => ?_) (fun hc => ?_)
  · have h := h.2.1 hc
    refine zr_iload_n (pc' := 16) (i := 1) dX12_levelAt_15 rfl rfl rfl ?_
    refine zr_aload_n (pc' := 17) (i := 0) dX12_levelAt_16 rfl rfl rfl ?_
    refine zr_get (pc' := 20) dX12_levelAt_17 rfl ps_102 kd_102 fl_X12_369 kc_12 (gv_102_34 _) ?_
    refine zr_isub (pc' := 21) dX12_levelAt_20 rfl ?_
    refine zr_istore_n (pc' := 22) (i := 3) (al' := [(3, .inl (l1 - (M 102 34))), (2, .inl 0), (0, .inr (.inr 102)), (1, .inl l1)]) dX12_levelAt_21 rfl rfl (by decide) rfl ?_
    obtain ⟨n', h⟩ := h
    exact zn_al ((key n') _ _ _ _ h) ⟨rfl, rfl, rfl, rfl, trivial⟩
  · have h := h.2.2 hc
    refine zr_iconst (pc' := 12) dX12_levelAt_11 rfl ?_
    refine zr_goto (pc' := 21) dX12_levelAt_12 rfl ?_
    refine zr_istore_n (pc' := 22) (i := 3) (al' := [(3, .inl 0), (2, .inl 0), (0, .inr (.inr 102)), (1, .inl l1)]) dX12_levelAt_21 rfl rfl (by decide) rfl ?_
    obtain ⟨n', h⟩ := h
    exact zn_al ((key n') _ _ _ _ h) ⟨rfl, rfl, rfl, rfl, trivial⟩
set_option maxRecDepth 20000 in
theorem vcX12_level {E : zE} {M : zM} {Q : Int → zM → Prop} (l1 : Int)
    (h : (∀ M1, M1 = zup M 102 2 0 → (zP E mX12_isHour [.inl l1] M1 (fun r2 M3 => ((zR r2) ∧ ((r2 = 0 → Q (-1) M3) ∧ (¬ r2 = 0 → (zP E mX12_levelAt [.inr (.inr 102), .inl l1] M3 (fun r4 M5 => Q r4 M5)))))))))
    : zP E mX12_level [.inr (.inr 102), .inl l1] M Q := by
  refine zP_of (by decide +kernel) rfl (Nat.le_of_ble_eq_true rfl) ?_
  show zA E zNN (0, 0) mX12_level 0 [(0, .inr (.inr 102)), (1, .inl l1)] [] M (zQ Q)
  refine zr_aload_n (pc' := 1) (i := 0) dX12_level_0 rfl rfl rfl ?_
  refine zr_iconst (pc' := 2) dX12_level_1 rfl ?_
  refine zr_put (pc' := 5) dX12_level_2 rfl ps_102 kd_102 fl_X12_208 kc_12 rfl nf_102_2 rfl trivial (fun M1 hM1 => ?_)
  have h := h M1 hM1
  refine zr_iload_n (pc' := 6) (i := 1) dX12_level_5 rfl rfl rfl ?_
  refine zn_callS (pc' := 9) (args := [.inl l1]) (st := []) (st' := fun r2 => [.inl r2]) dX12_level_6 rfl cs_X12_231 ⟨rfl, rfl, by decide, by decide⟩ rfl rfl rfl (Nat.le_of_ble_eq_true rfl) (fun _ => rfl) h ?_
  intro r2 M3 h
  refine zr_if_eq (tgt := 20) (pc' := 12) dX12_level_9 rfl rfl h.1 (fun hc => ?_) (fun hc => ?_)
  · have h := h.2.1 hc
    refine zr_iconst (pc' := 21) dX12_level_20 rfl ?_
    exact zr_ireturn dX12_level_21 rfl rfl trivial (Nat.le_refl _) (Nat.le_refl _) (And.intro rfl h)
  · have h := h.2.2 hc
    refine zr_aload_n (pc' := 13) (i := 0) dX12_level_12 rfl rfl rfl ?_
    refine zr_iload_n (pc' := 14) (i := 1) dX12_level_13 rfl rfl rfl ?_
    refine zn_callV (pc' := 17) (args := [.inl l1]) (st := []) (st' := fun r4 => [.inl r4]) dX12_level_14 rfl cv_X12_405 ⟨rfl, rfl, by decide, by decide⟩ rfl ps_102 kd_102 rfl rfl (Nat.le_of_ble_eq_true rfl) (fun _ => rfl) h ?_
    intro r4 M5 h
    refine zr_goto (pc' := 21) dX12_level_17 rfl ?_
    exact zr_ireturn dX12_level_21 rfl rfl trivial (Nat.le_refl _) (Nat.le_refl _) (And.intro rfl h)
set_option maxRecDepth 20000 in
theorem vcX12_land {E : zE} {M : zM} {Q : Int → zM → Prop} (l1 l2 : Int) (I39 : Nat → Int → zM → Prop)
    (h : (∀ M1, M1 = zup M 102 2 0 → (zP E mX12_isIn [.inl l1, .inl 2, .inl 8] M1 (fun r2 M3 => ((zR r2) ∧ ((r2 = 0 → Q 0 M3) ∧ (¬ r2 = 0 → (zP E mX12_isIn [.inl l2, .inl 2, .inl 8] M3 (fun r4 M5 => ((zR r4) ∧ ((¬ r4 = 0 → (∀ M6, M6 = zup M5 102 51 l1 → (∀ M7, M7 = zup M6 102 52 l2 → ∃ n', I39 n' 0 M7))) ∧ (r4 = 0 → Q 0 M5))))))))))))
    (h39 : ∀ (n : Nat) (l3 : Int) (M : zM), I39 n l3 M → ((zR l3) ∧ ((64 ≤ l3 → (∀ M8, M8 = zup M 102 57 0 → (∀ M9, M9 = zup M8 102 58 0 → (∀ M10, M10 = zup M9 102 69 0 → (∀ M11, M11 = zup M10 102 76 0 → (∀ M12, M12 = zup M11 102 96 0 → Q 1 M12)))))) ∧ (l3 < 64 → (0 ≤ l3 ∧ l3 < 64) ∧ (∀ M13, M13 = zup M 128 l3.toNat 0 → (0 ≤ l3 ∧ l3 < 64) ∧ (∀ M14, M14 = zup M13 129 l3.toNat 0 → (0 ≤ l3 ∧ l3 < 64) ∧ (∀ M15, M15 = zup M14 130 l3.toNat 0 → (0 ≤ l3 ∧ l3 < 64) ∧ (∀ M16, M16 = zup M15 131 l3.toNat 0 → ∃ n', n' < n ∧ I39 n' (l3 + 1) M16))))))))
    : zP E mX12_land [.inr (.inr 102), .inl l1, .inl l2] M Q := by
  have key : ∀ n : Nat, (∀ (l3 : Int) (M : zM), I39 n l3 M → zA E zNN (0, 0) mX12_land 39 [(0, .inr (.inr 102)), (3, .inl l3)] [] M (zQ Q)) := by
    intro n
    induction n using Nat.strongRecOn with
    | ind n ih =>
      intro l3 M h
      have h := h39 n l3 M h
      refine zr_iload_n (pc' := 40) (i := 3) dX12_land_39 rfl rfl rfl ?_
      refine zr_bipush (pc' := 42) dX12_land_40 rfl rfl ?_
      refine zr_icmp_ge (tgt := 79) (pc' := 45) dX12_land_42 rfl rfl h.1 (zRd rfl) (fun hc => ?_) (fun hc => ?_)
      · have h := h.2.1 hc
        refine zr_aload_n (pc' := 80) (i := 0) dX12_land_79 rfl rfl rfl ?_
        refine zr_iconst (pc' := 81) dX12_land_80 rfl ?_
        refine zr_put (pc' := 84) dX12_land_81 rfl ps_102 kd_102 fl_X12_408 kc_12 rfl nf_102_57 rfl trivial (fun M8 hM1 => ?_)
        have h := h M8 hM1
        refine zr_aload_n (pc' := 85) (i := 0) dX12_land_84 rfl rfl rfl ?_
        refine zr_iconst (pc' := 86) dX12_land_85 rfl ?_
        refine zr_put (pc' := 89) dX12_land_86 rfl ps_102 kd_102 fl_X12_411 kc_12 rfl nf_102_58 rfl trivial (fun M9 hM1 => ?_)
        have h := h M9 hM1
        refine zr_aload_n (pc' := 90) (i := 0) dX12_land_89 rfl rfl rfl ?_
        refine zr_iconst (pc' := 91) dX12_land_90 rfl ?_
        refine zr_put (pc' := 94) dX12_land_91 rfl ps_102 kd_102 fl_X12_414 kc_12 rfl nf_102_69 rfl trivial (fun M10 hM1 => ?_)
        have h := h M10 hM1
        refine zr_aload_n (pc' := 95) (i := 0) dX12_land_94 rfl rfl rfl ?_
        refine zr_iconst (pc' := 96) dX12_land_95 rfl ?_
        refine zr_put (pc' := 99) dX12_land_96 rfl ps_102 kd_102 fl_X12_417 kc_12 rfl nf_102_76 rfl trivial (fun M11 hM1 => ?_)
        have h := h M11 hM1
        refine zr_aload_n (pc' := 100) (i := 0) dX12_land_99 rfl rfl rfl ?_
        refine zr_iconst (pc' := 101) dX12_land_100 rfl ?_
        refine zr_put (pc' := 104) dX12_land_101 rfl ps_102 kd_102 fl_X12_420 kc_12 rfl nf_102_96 rfl trivial (fun M12 hM1 => ?_)
        have h := h M12 hM1
        refine zr_iconst (pc' := 105) dX12_land_104 rfl ?_
        exact zr_ireturn dX12_land_105 rfl rfl (Or.inr rfl) (Nat.le_refl _) (Nat.le_refl _) (And.intro rfl h)
      · have h := h.2.2 hc
        refine zr_aload_n (pc' := 46) (i := 0) dX12_land_45 rfl rfl rfl ?_
        refine zr_get (pc' := 49) dX12_land_46 rfl ps_102 kd_102 fl_X12_97 kc_12 (gv_102_53 _) ?_
        refine zr_iload_n (pc' := 50) (i := 3) dX12_land_49 rfl rfl rfl ?_
        refine zr_iconst (pc' := 51) dX12_land_50 rfl ?_
        refine zr_iast (pc' := 52) dX12_land_51 rfl ps_128 kd_128 (by decide) h.1.1 h.1.2 (fun M13 hM1 => ?_)
        have h := h.2 M13 hM1
        refine zr_aload_n (pc' := 53) (i := 0) dX12_land_52 rfl rfl rfl ?_
        refine zr_get (pc' := 56) dX12_land_53 rfl ps_102 kd_102 fl_X12_100 kc_12 (gv_102_54 _) ?_
        refine zr_iload_n (pc' := 57) (i := 3) dX12_land_56 rfl rfl rfl ?_
        refine zr_iconst (pc' := 58) dX12_land_57 rfl ?_
        refine zr_iast (pc' := 59) dX12_land_58 rfl ps_129 kd_129 (by decide) h.1.1 h.1.2 (fun M14 hM1 => ?_)
        have h := h.2 M14 hM1
        refine zr_aload_n (pc' := 60) (i := 0) dX12_land_59 rfl rfl rfl ?_
        refine zr_get (pc' := 63) dX12_land_60 rfl ps_102 kd_102 fl_X12_103 kc_12 (gv_102_55 _) ?_
        refine zr_iload_n (pc' := 64) (i := 3) dX12_land_63 rfl rfl rfl ?_
        refine zr_iconst (pc' := 65) dX12_land_64 rfl ?_
        refine zr_zast (pc' := 66) dX12_land_65 rfl ps_130 kd_130 (by decide) h.1.1 h.1.2 (Or.inl rfl) (fun M15 hM1 => ?_)
        have h := h.2 M15 hM1
        refine zr_aload_n (pc' := 67) (i := 0) dX12_land_66 rfl rfl rfl ?_
        refine zr_get (pc' := 70) dX12_land_67 rfl ps_102 kd_102 fl_X12_106 kc_12 (gv_102_56 _) ?_
        refine zr_iload_n (pc' := 71) (i := 3) dX12_land_70 rfl rfl rfl ?_
        refine zr_iconst (pc' := 72) dX12_land_71 rfl ?_
        refine zr_zast (pc' := 73) dX12_land_72 rfl ps_131 kd_131 (by decide) h.1.1 h.1.2 (Or.inl rfl) (fun M16 hM1 => ?_)
        have h := h.2 M16 hM1
        refine zr_iinc (pc' := 76) (al' := [(3, .inl (l3 + 1)), (0, .inr (.inr 102))]) dX12_land_73 rfl rfl (by decide) rfl ?_
        refine zr_goto (pc' := 39) dX12_land_76 rfl ?_
        obtain ⟨n', hn, h⟩ := h
        exact zn_al ((ih n' hn) _ _ h) ⟨rfl, rfl, trivial⟩
  refine zP_of (by decide +kernel) rfl (Nat.le_of_ble_eq_true rfl) ?_
  show zA E zNN (0, 0) mX12_land 0 [(0, .inr (.inr 102)), (1, .inl l1), (2, .inl l2)] [] M (zQ Q)
  refine zr_aload_n (pc' := 1) (i := 0) dX12_land_0 rfl rfl rfl ?_
  refine zr_iconst (pc' := 2) dX12_land_1 rfl ?_
  refine zr_put (pc' := 5) dX12_land_2 rfl ps_102 kd_102 fl_X12_208 kc_12 rfl nf_102_2 rfl trivial (fun M1 hM1 => ?_)
  have h := h M1 hM1
  refine zr_iload_n (pc' := 6) (i := 1) dX12_land_5 rfl rfl rfl ?_
  refine zr_iconst (pc' := 7) dX12_land_6 rfl ?_
  refine zr_bipush (pc' := 9) dX12_land_7 rfl rfl ?_
  refine zn_callS (pc' := 12) (args := [.inl l1, .inl 2, .inl 8]) (st := []) (st' := fun r2 => [.inl r2]) dX12_land_9 rfl cs_X12_214 ⟨rfl, rfl, by decide, by decide⟩ rfl rfl rfl (Nat.le_of_ble_eq_true rfl) (fun _ => rfl) h ?_
  intro r2 M3 h
  refine zr_if_eq (tgt := 25) (pc' := 15) dX12_land_12 rfl rfl h.1 (fun hc => ?_) (fun hc => ?_)
  · have h := h.2.1 hc
    refine zr_iconst (pc' := 26) dX12_land_25 rfl ?_
    exact zr_ireturn dX12_land_26 rfl rfl (Or.inl rfl) (Nat.le_refl _) (Nat.le_refl _) (And.intro rfl h)
  · have h := h.2.2 hc
    refine zr_iload_n (pc' := 16) (i := 2) dX12_land_15 rfl rfl rfl ?_
    refine zr_iconst (pc' := 17) dX12_land_16 rfl ?_
    refine zr_bipush (pc' := 19) dX12_land_17 rfl rfl ?_
    refine zn_callS (pc' := 22) (args := [.inl l2, .inl 2, .inl 8]) (st := []) (st' := fun r4 => [.inl r4]) dX12_land_19 rfl cs_X12_214 ⟨rfl, rfl, by decide, by decide⟩ rfl rfl rfl (Nat.le_of_ble_eq_true rfl) (fun _ => rfl) h ?_
    intro r4 M5 h
    refine zr_if_ne (tgt := 27) (pc' := 25) dX12_land_22 rfl rfl h.1 (fun hc => ?_) (fun hc => ?_)
    · have h := h.2.1 hc
      refine zr_aload_n (pc' := 28) (i := 0) dX12_land_27 rfl rfl rfl ?_
      refine zr_iload_n (pc' := 29) (i := 1) dX12_land_28 rfl rfl rfl ?_
      refine zr_put (pc' := 32) dX12_land_29 rfl ps_102 kd_102 fl_X12_91 kc_12 rfl nf_102_51 rfl trivial (fun M6 hM1 => ?_)
      have h := h M6 hM1
      refine zr_aload_n (pc' := 33) (i := 0) dX12_land_32 rfl rfl rfl ?_
      refine zr_iload_n (pc' := 34) (i := 2) dX12_land_33 rfl rfl rfl ?_
      refine zr_put (pc' := 37) dX12_land_34 rfl ps_102 kd_102 fl_X12_94 kc_12 rfl nf_102_52 rfl trivial (fun M7 hM1 => ?_)
      have h := h M7 hM1
      refine zr_iconst (pc' := 38) dX12_land_37 rfl ?_
      refine zr_istore_n (pc' := 39) (i := 3) (al' := [(3, .inl 0), (0, .inr (.inr 102)), (1, .inl l1), (2, .inl l2)]) dX12_land_38 rfl rfl (by decide) rfl ?_
      obtain ⟨n', h⟩ := h
      exact zn_al ((key n') _ _ h) ⟨rfl, rfl, trivial⟩
    · have h := h.2.2 hc
      refine zr_iconst (pc' := 26) dX12_land_25 rfl ?_
      exact zr_ireturn dX12_land_26 rfl rfl (Or.inl rfl) (Nat.le_refl _) (Nat.le_refl _) (And.intro rfl h)
set_option maxRecDepth 20000 in
theorem vcX12_isCell {E : zE} {M : zM} {Q : Int → zM → Prop} (l1 : Int)
    (h : ((zR l1) ∧ ((l1 < 0 → Q 0 M) ∧ (0 ≤ l1 → ((zR l1 ∧ zR ((M 102 51) * (M 102 52))) ∧ ((((M 102 51) * (M 102 52)) ≤ l1 → Q 0 M) ∧ (l1 < ((M 102 51) * (M 102 52)) → Q 1 M)))))))
    : zP E mX12_isCell [.inr (.inr 102), .inl l1] M Q := by
  refine zP_of (by decide +kernel) rfl (Nat.le_of_ble_eq_true rfl) ?_
  show zA E zNN (0, 0) mX12_isCell 0 [(0, .inr (.inr 102)), (1, .inl l1)] [] M (zQ Q)
  refine zr_iload_n (pc' := 1) (i := 1) dX12_isCell_0 rfl rfl rfl ?_
  refine zr_if_lt (tgt := 21) (pc' := 4) dX12_isCell_1 rfl rfl h.1 (fun hc => ?_) (fun hc => ?_)
  · have h := h.2.1 hc
    refine zr_iconst (pc' := 22) dX12_isCell_21 rfl ?_
    exact zr_ireturn dX12_isCell_22 rfl rfl (Or.inl rfl) (Nat.le_refl _) (Nat.le_refl _) (And.intro rfl h)
  · have h := h.2.2 hc
    refine zr_iload_n (pc' := 5) (i := 1) dX12_isCell_4 rfl rfl rfl ?_
    refine zr_aload_n (pc' := 6) (i := 0) dX12_isCell_5 rfl rfl rfl ?_
    refine zr_get (pc' := 9) dX12_isCell_6 rfl ps_102 kd_102 fl_X12_91 kc_12 (gv_102_51 _) ?_
    refine zr_aload_n (pc' := 10) (i := 0) dX12_isCell_9 rfl rfl rfl ?_
    refine zr_get (pc' := 13) dX12_isCell_10 rfl ps_102 kd_102 fl_X12_94 kc_12 (gv_102_52 _) ?_
    refine zr_imul (pc' := 14) dX12_isCell_13 rfl ?_
    refine zr_icmp_ge (tgt := 21) (pc' := 17) dX12_isCell_14 rfl rfl h.1.1 h.1.2 (fun hc => ?_) (fun hc => ?_)
    · have h := h.2.1 hc
      refine zr_iconst (pc' := 22) dX12_isCell_21 rfl ?_
      exact zr_ireturn dX12_isCell_22 rfl rfl (Or.inl rfl) (Nat.le_refl _) (Nat.le_refl _) (And.intro rfl h)
    · have h := h.2.2 hc
      refine zr_iconst (pc' := 18) dX12_isCell_17 rfl ?_
      refine zr_goto (pc' := 22) dX12_isCell_18 rfl ?_
      exact zr_ireturn dX12_isCell_22 rfl rfl (Or.inr rfl) (Nat.le_refl _) (Nat.le_refl _) (And.intro rfl h)
set_option maxRecDepth 20000 in
theorem vcX12_ground {E : zE} {M : zM} {Q : Int → zM → Prop} (l1 l2 l3 : Int)
    (h : (∀ M1, M1 = zup M 102 2 0 → (zP E mX12_isCell [.inr (.inr 102), .inl l1] M1 (fun r2 M3 => ((zR r2) ∧ ((r2 = 0 → Q 0 M3) ∧ (¬ r2 = 0 → (zP E mX12_isIn [.inl l2, .inl 0, .inl 999] M3 (fun r4 M5 => ((zR r4) ∧ ((r4 = 0 → Q 0 M5) ∧ (¬ r4 = 0 → (zP E mX12_isIn [.inl l3, .inl 0, .inl 99] M5 (fun r6 M7 => ((zR r6) ∧ ((r6 = 0 → Q 0 M7) ∧ (¬ r6 = 0 → ((zR l3) ∧ ((l3 ≤ 0 → (0 ≤ l1 ∧ l1 < 64) ∧ (∀ M8, M8 = zup M7 128 l1.toNat l2 → (0 ≤ l1 ∧ l1 < 64) ∧ (∀ M9, M9 = zup M8 129 l1.toNat l3 → Q 1 M9))) ∧ (0 < l3 → (0 ≤ l1 ∧ l1 < 64) ∧ ((zR (M7 130 l1.toNat)) ∧ ((¬ (M7 130 l1.toNat) = 0 → Q 0 M7) ∧ ((M7 130 l1.toNat) = 0 → (0 ≤ l1 ∧ l1 < 64) ∧ ((zR (M7 131 l1.toNat)) ∧ (((M7 131 l1.toNat) = 0 → (0 ≤ l1 ∧ l1 < 64) ∧ (∀ M10, M10 = zup M7 128 l1.toNat l2 → (0 ≤ l1 ∧ l1 < 64) ∧ (∀ M11, M11 = zup M10 129 l1.toNat l3 → Q 1 M11))) ∧ (¬ (M7 131 l1.toNat) = 0 → Q 0 M7))))))))))))))))))))))))))
    : zP E mX12_ground [.inr (.inr 102), .inl l1, .inl l2, .inl l3] M Q := by
  refine zP_of (by decide +kernel) rfl (Nat.le_of_ble_eq_true rfl) ?_
  show zA E zNN (0, 0) mX12_ground 0 [(0, .inr (.inr 102)), (1, .inl l1), (2, .inl l2), (3, .inl l3)] [] M (zQ Q)
  refine zr_aload_n (pc' := 1) (i := 0) dX12_ground_0 rfl rfl rfl ?_
  refine zr_iconst (pc' := 2) dX12_ground_1 rfl ?_
  refine zr_put (pc' := 5) dX12_ground_2 rfl ps_102 kd_102 fl_X12_208 kc_12 rfl nf_102_2 rfl trivial (fun M1 hM1 => ?_)
  have h := h M1 hM1
  refine zr_aload_n (pc' := 6) (i := 0) dX12_ground_5 rfl rfl rfl ?_
  refine zr_iload_n (pc' := 7) (i := 1) dX12_ground_6 rfl rfl rfl ?_
  refine zn_callV (pc' := 10) (args := [.inl l1]) (st := []) (st' := fun r2 => [.inl r2]) dX12_ground_7 rfl cv_X12_423 ⟨rfl, rfl, by decide, by decide⟩ rfl ps_102 kd_102 rfl rfl (Nat.le_of_ble_eq_true rfl) (fun _ => rfl) h ?_
  intro r2 M3 h
  refine zr_if_eq (tgt := 56) (pc' := 13) dX12_ground_10 rfl rfl h.1 (fun hc => ?_) (fun hc => ?_)
  · have h := h.2.1 hc
    refine zr_iconst (pc' := 57) dX12_ground_56 rfl ?_
    exact zr_ireturn dX12_ground_57 rfl rfl (Or.inl rfl) (Nat.le_refl _) (Nat.le_refl _) (And.intro rfl h)
  · have h := h.2.2 hc
    refine zr_iload_n (pc' := 14) (i := 2) dX12_ground_13 rfl rfl rfl ?_
    refine zr_iconst (pc' := 15) dX12_ground_14 rfl ?_
    refine zr_sipush (pc' := 18) dX12_ground_15 rfl rfl ?_
    refine zn_callS (pc' := 21) (args := [.inl l2, .inl 0, .inl 999]) (st := []) (st' := fun r4 => [.inl r4]) dX12_ground_18 rfl cs_X12_214 ⟨rfl, rfl, by decide, by decide⟩ rfl rfl rfl (Nat.le_of_ble_eq_true rfl) (fun _ => rfl) h ?_
    intro r4 M5 h
    refine zr_if_eq (tgt := 56) (pc' := 24) dX12_ground_21 rfl rfl h.1 (fun hc => ?_) (fun hc => ?_)
    · have h := h.2.1 hc
      refine zr_iconst (pc' := 57) dX12_ground_56 rfl ?_
      exact zr_ireturn dX12_ground_57 rfl rfl (Or.inl rfl) (Nat.le_refl _) (Nat.le_refl _) (And.intro rfl h)
    · have h := h.2.2 hc
      refine zr_iload_n (pc' := 25) (i := 3) dX12_ground_24 rfl rfl rfl ?_
      refine zr_iconst (pc' := 26) dX12_ground_25 rfl ?_
      refine zr_bipush (pc' := 28) dX12_ground_26 rfl rfl ?_
      refine zn_callS (pc' := 31) (args := [.inl l3, .inl 0, .inl 99]) (st := []) (st' := fun r6 => [.inl r6]) dX12_ground_28 rfl cs_X12_214 ⟨rfl, rfl, by decide, by decide⟩ rfl rfl rfl (Nat.le_of_ble_eq_true rfl) (fun _ => rfl) h ?_
      intro r6 M7 h
      refine zr_if_eq (tgt := 56) (pc' := 34) dX12_ground_31 rfl rfl h.1 (fun hc => ?_) (fun hc => ?_)
      · have h := h.2.1 hc
        refine zr_iconst (pc' := 57) dX12_ground_56 rfl ?_
        exact zr_ireturn dX12_ground_57 rfl rfl (Or.inl rfl) (Nat.le_refl _) (Nat.le_refl _) (And.intro rfl h)
      · have h := h.2.2 hc
        refine zr_iload_n (pc' := 35) (i := 3) dX12_ground_34 rfl rfl rfl ?_
        refine zr_if_le (tgt := 58) (pc' := 38) dX12_ground_35 rfl rfl h.1 (fun hc => ?_) (fun hc => ?_)
        · have h := h.2.1 hc
          refine zr_aload_n (pc' := 59) (i := 0) dX12_ground_58 rfl rfl rfl ?_
          refine zr_get (pc' := 62) dX12_ground_59 rfl ps_102 kd_102 fl_X12_97 kc_12 (gv_102_53 _) ?_
          refine zr_iload_n (pc' := 63) (i := 1) dX12_ground_62 rfl rfl rfl ?_
          refine zr_iload_n (pc' := 64) (i := 2) dX12_ground_63 rfl rfl rfl ?_
          refine zr_iast (pc' := 65) dX12_ground_64 rfl ps_128 kd_128 (by decide) h.1.1 h.1.2 (fun M8 hM1 => ?_)
          have h := h.2 M8 hM1
          refine zr_aload_n (pc' := 66) (i := 0) dX12_ground_65 rfl rfl rfl ?_
          refine zr_get (pc' := 69) dX12_ground_66 rfl ps_102 kd_102 fl_X12_100 kc_12 (gv_102_54 _) ?_
          refine zr_iload_n (pc' := 70) (i := 1) dX12_ground_69 rfl rfl rfl ?_
          refine zr_iload_n (pc' := 71) (i := 3) dX12_ground_70 rfl rfl rfl ?_
          refine zr_iast (pc' := 72) dX12_ground_71 rfl ps_129 kd_129 (by decide) h.1.1 h.1.2 (fun M9 hM1 => ?_)
          have h := h.2 M9 hM1
          refine zr_iconst (pc' := 73) dX12_ground_72 rfl ?_
          exact zr_ireturn dX12_ground_73 rfl rfl (Or.inr rfl) (Nat.le_refl _) (Nat.le_refl _) (And.intro rfl h)
        · have h := h.2.2 hc
          refine zr_aload_n (pc' := 39) (i := 0) dX12_ground_38 rfl rfl rfl ?_
          refine zr_get (pc' := 42) dX12_ground_39 rfl ps_102 kd_102 fl_X12_103 kc_12 (gv_102_55 _) ?_
          refine zr_iload_n (pc' := 43) (i := 1) dX12_ground_42 rfl rfl rfl ?_
          refine zr_zald (pc' := 44) dX12_ground_43 rfl ps_130 kd_130 (by decide) h.1.1 h.1.2 ?_
          have h := h.2
          refine zr_if_ne (tgt := 56) (pc' := 47) dX12_ground_44 rfl rfl h.1 (fun hc => ?_) (fun hc => ?_)
          · have h := h.2.1 hc
            refine zr_iconst (pc' := 57) dX12_ground_56 rfl ?_
            exact zr_ireturn dX12_ground_57 rfl rfl (Or.inl rfl) (Nat.le_refl _) (Nat.le_refl _) (And.intro rfl h)
          · have h := h.2.2 hc
            refine zr_aload_n (pc' := 48) (i := 0) dX12_ground_47 rfl rfl rfl ?_
            refine zr_get (pc' := 51) dX12_ground_48 rfl ps_102 kd_102 fl_X12_106 kc_12 (gv_102_56 _) ?_
            refine zr_iload_n (pc' := 52) (i := 1) dX12_ground_51 rfl rfl rfl ?_
            refine zr_zald (pc' := 53) dX12_ground_52 rfl ps_131 kd_131 (by decide) h.1.1 h.1.2 ?_
            have h := h.2
            refine zr_if_eq (tgt := 58) (pc' := 56) dX12_ground_53 rfl rfl h.1 (fun hc => ?_) (fun hc => ?_)
            · have h := h.2.1 hc
              refine zr_aload_n (pc' := 59) (i := 0) dX12_ground_58 rfl rfl rfl ?_
              refine zr_get (pc' := 62) dX12_ground_59 rfl ps_102 kd_102 fl_X12_97 kc_12 (gv_102_53 _) ?_
              refine zr_iload_n (pc' := 63) (i := 1) dX12_ground_62 rfl rfl rfl ?_
              refine zr_iload_n (pc' := 64) (i := 2) dX12_ground_63 rfl rfl rfl ?_
              refine zr_iast (pc' := 65) dX12_ground_64 rfl ps_128 kd_128 (by decide) h.1.1 h.1.2 (fun M10 hM1 => ?_)
              have h := h.2 M10 hM1
              refine zr_aload_n (pc' := 66) (i := 0) dX12_ground_65 rfl rfl rfl ?_
              refine zr_get (pc' := 69) dX12_ground_66 rfl ps_102 kd_102 fl_X12_100 kc_12 (gv_102_54 _) ?_
              refine zr_iload_n (pc' := 70) (i := 1) dX12_ground_69 rfl rfl rfl ?_
              refine zr_iload_n (pc' := 71) (i := 3) dX12_ground_70 rfl rfl rfl ?_
              refine zr_iast (pc' := 72) dX12_ground_71 rfl ps_129 kd_129 (by decide) h.1.1 h.1.2 (fun M11 hM1 => ?_)
              have h := h.2 M11 hM1
              refine zr_iconst (pc' := 73) dX12_ground_72 rfl ?_
              exact zr_ireturn dX12_ground_73 rfl rfl (Or.inr rfl) (Nat.le_refl _) (Nat.le_refl _) (And.intro rfl h)
            · have h := h.2.2 hc
              refine zr_iconst (pc' := 57) dX12_ground_56 rfl ?_
              exact zr_ireturn dX12_ground_57 rfl rfl (Or.inl rfl) (Nat.le_refl _) (Nat.le_refl _) (And.intro rfl h)
set_option maxRecDepth 20000 in
theorem vcX12_hasWork {E : zE} {M : zM} {Q : Int → zM → Prop} (l1 l2 : Int)
    (h : ((zR l2) ∧ ((l2 = 0 → (0 ≤ l1 ∧ l1 < 64) ∧ ((M 130 l1.toNat = 0 ∨ M 130 l1.toNat = 1) ∧ Q (M 130 l1.toNat) M)) ∧ (¬ l2 = 0 → (0 ≤ l1 ∧ l1 < 64) ∧ ((M 131 l1.toNat = 0 ∨ M 131 l1.toNat = 1) ∧ Q (M 131 l1.toNat) M)))))
    : zP E mX12_hasWork [.inr (.inr 102), .inl l1, .inl l2] M Q := by
  refine zP_of (by decide +kernel) rfl (Nat.le_of_ble_eq_true rfl) ?_
  show zA E zNN (0, 0) mX12_hasWork 0 [(0, .inr (.inr 102)), (1, .inl l1), (2, .inl l2)] [] M (zQ Q)
  refine zr_iload_n (pc' := 1) (i := 2) dX12_hasWork_0 rfl rfl rfl ?_
  refine zr_if_eq (tgt := 13) (pc' := 4) dX12_hasWork_1 rfl rfl h.1 (fun hc => ?_) (fun hc => ?_)
  · have h := h.2.1 hc
    refine zr_aload_n (pc' := 14) (i := 0) dX12_hasWork_13 rfl rfl rfl ?_
    refine zr_get (pc' := 17) dX12_hasWork_14 rfl ps_102 kd_102 fl_X12_103 kc_12 (gv_102_55 _) ?_
    refine zr_iload_n (pc' := 18) (i := 1) dX12_hasWork_17 rfl rfl rfl ?_
    refine zr_zald (pc' := 19) dX12_hasWork_18 rfl ps_130 kd_130 (by decide) h.1.1 h.1.2 ?_
    have h := h.2
    exact zr_ireturn dX12_hasWork_19 rfl rfl h.1 (Nat.le_refl _) (Nat.le_refl _) (And.intro rfl h.2)
  · have h := h.2.2 hc
    refine zr_aload_n (pc' := 5) (i := 0) dX12_hasWork_4 rfl rfl rfl ?_
    refine zr_get (pc' := 8) dX12_hasWork_5 rfl ps_102 kd_102 fl_X12_106 kc_12 (gv_102_56 _) ?_
    refine zr_iload_n (pc' := 9) (i := 1) dX12_hasWork_8 rfl rfl rfl ?_
    refine zr_zald (pc' := 10) dX12_hasWork_9 rfl ps_131 kd_131 (by decide) h.1.1 h.1.2 ?_
    have h := h.2
    refine zr_goto (pc' := 19) dX12_hasWork_10 rfl ?_
    exact zr_ireturn dX12_hasWork_19 rfl rfl h.1 (Nat.le_refl _) (Nat.le_refl _) (And.intro rfl h.2)
set_option maxRecDepth 20000 in
theorem vcX12_mayWork {E : zE} {M : zM} {Q : Int → zM → Prop} (l1 l2 : Int)
    (h : (zP E mX12_hasWork [.inr (.inr 102), .inl l1, .inl l2] M (fun r1 M2 => ((zR r1) ∧ ((¬ r1 = 0 → Q 0 M2) ∧ (r1 = 0 → (0 ≤ l1 ∧ l1 < 64) ∧ ((zR (M2 129 l1.toNat)) ∧ ((¬ (M2 129 l1.toNat) = 0 → Q 0 M2) ∧ ((M2 129 l1.toNat) = 0 → ((zR (M2 102 57)) ∧ ((4 ≤ (M2 102 57) → Q 0 M2) ∧ ((M2 102 57) < 4 → Q 1 M2))))))))))))
    : zP E mX12_mayWork [.inr (.inr 102), .inl l1, .inl l2] M Q := by
  refine zP_of (by decide +kernel) rfl (Nat.le_of_ble_eq_true rfl) ?_
  show zA E zNN (0, 0) mX12_mayWork 0 [(0, .inr (.inr 102)), (1, .inl l1), (2, .inl l2)] [] M (zQ Q)
  refine zr_aload_n (pc' := 1) (i := 0) dX12_mayWork_0 rfl rfl rfl ?_
  refine zr_iload_n (pc' := 2) (i := 1) dX12_mayWork_1 rfl rfl rfl ?_
  refine zr_iload_n (pc' := 3) (i := 2) dX12_mayWork_2 rfl rfl rfl ?_
  refine zn_callV (pc' := 6) (args := [.inl l1, .inl l2]) (st := []) (st' := fun r1 => [.inl r1]) dX12_mayWork_3 rfl cv_X12_426 ⟨rfl, rfl, by decide, by decide⟩ rfl ps_102 kd_102 rfl rfl (Nat.le_of_ble_eq_true rfl) (fun _ => rfl) h ?_
  intro r1 M2 h
  refine zr_if_ne (tgt := 30) (pc' := 9) dX12_mayWork_6 rfl rfl h.1 (fun hc => ?_) (fun hc => ?_)
  · have h := h.2.1 hc
    refine zr_iconst (pc' := 31) dX12_mayWork_30 rfl ?_
    exact zr_ireturn dX12_mayWork_31 rfl rfl (Or.inl rfl) (Nat.le_refl _) (Nat.le_refl _) (And.intro rfl h)
  · have h := h.2.2 hc
    refine zr_aload_n (pc' := 10) (i := 0) dX12_mayWork_9 rfl rfl rfl ?_
    refine zr_get (pc' := 13) dX12_mayWork_10 rfl ps_102 kd_102 fl_X12_100 kc_12 (gv_102_54 _) ?_
    refine zr_iload_n (pc' := 14) (i := 1) dX12_mayWork_13 rfl rfl rfl ?_
    refine zr_iald (pc' := 15) dX12_mayWork_14 rfl ps_129 kd_129 (by decide) h.1.1 h.1.2 ?_
    have h := h.2
    refine zr_if_ne (tgt := 30) (pc' := 18) dX12_mayWork_15 rfl rfl h.1 (fun hc => ?_) (fun hc => ?_)
    · have h := h.2.1 hc
      refine zr_iconst (pc' := 31) dX12_mayWork_30 rfl ?_
      exact zr_ireturn dX12_mayWork_31 rfl rfl (Or.inl rfl) (Nat.le_refl _) (Nat.le_refl _) (And.intro rfl h)
    · have h := h.2.2 hc
      refine zr_aload_n (pc' := 19) (i := 0) dX12_mayWork_18 rfl rfl rfl ?_
      refine zr_get (pc' := 22) dX12_mayWork_19 rfl ps_102 kd_102 fl_X12_408 kc_12 (gv_102_57 _) ?_
      refine zr_iconst (pc' := 23) dX12_mayWork_22 rfl ?_
      refine zr_icmp_ge (tgt := 30) (pc' := 26) dX12_mayWork_23 rfl rfl h.1 (zRd rfl) (fun hc => ?_) (fun hc => ?_)
      · have h := h.2.1 hc
        refine zr_iconst (pc' := 31) dX12_mayWork_30 rfl ?_
        exact zr_ireturn dX12_mayWork_31 rfl rfl (Or.inl rfl) (Nat.le_refl _) (Nat.le_refl _) (And.intro rfl h)
      · have h := h.2.2 hc
        refine zr_iconst (pc' := 27) dX12_mayWork_26 rfl ?_
        refine zr_goto (pc' := 31) dX12_mayWork_27 rfl ?_
        exact zr_ireturn dX12_mayWork_31 rfl rfl (Or.inr rfl) (Nat.le_refl _) (Nat.le_refl _) (And.intro rfl h)
set_option maxRecDepth 20000 in
theorem vcX12_setWork {E : zE} {M : zM} {Q : Int → zM → Prop} (l1 l2 l3 : Int)
    (h : ((zR l2) ∧ ((l2 = 0 → (0 ≤ l1 ∧ l1 < 64 ∧ (l3 = 0 ∨ l3 = 1)) ∧ (∀ M1, M1 = zup M 130 l1.toNat l3 → ((zR l3) ∧ ((l3 = 0 → (∀ M2, M2 = zup M1 102 57 ((M1 102 57) + (-1)) → Q 0 M2)) ∧ (¬ l3 = 0 → (∀ M3, M3 = zup M1 102 57 ((M1 102 57) + 1) → Q 0 M3)))))) ∧ (¬ l2 = 0 → (0 ≤ l1 ∧ l1 < 64 ∧ (l3 = 0 ∨ l3 = 1)) ∧ (∀ M4, M4 = zup M 131 l1.toNat l3 → ((zR l3) ∧ ((l3 = 0 → (∀ M5, M5 = zup M4 102 57 ((M4 102 57) + (-1)) → Q 0 M5)) ∧ (¬ l3 = 0 → (∀ M6, M6 = zup M4 102 57 ((M4 102 57) + 1) → Q 0 M6)))))))))
    : zP E mX12_setWork [.inr (.inr 102), .inl l1, .inl l2, .inl l3] M Q := by
  refine zP_of (by decide +kernel) rfl (Nat.le_of_ble_eq_true rfl) ?_
  show zA E zNN (0, 0) mX12_setWork 0 [(0, .inr (.inr 102)), (1, .inl l1), (2, .inl l2), (3, .inl l3)] [] M (zQ Q)
  refine zr_iload_n (pc' := 1) (i := 2) dX12_setWork_0 rfl rfl rfl ?_
  refine zr_if_eq (tgt := 14) (pc' := 4) dX12_setWork_1 rfl rfl h.1 (fun hc => ?_) (fun hc => ?_)
  · have h := h.2.1 hc
    refine zr_aload_n (pc' := 15) (i := 0) dX12_setWork_14 rfl rfl rfl ?_
    refine zr_get (pc' := 18) dX12_setWork_15 rfl ps_102 kd_102 fl_X12_103 kc_12 (gv_102_55 _) ?_
    refine zr_iload_n (pc' := 19) (i := 1) dX12_setWork_18 rfl rfl rfl ?_
    refine zr_iload_n (pc' := 20) (i := 3) dX12_setWork_19 rfl rfl rfl ?_
    refine zr_zast (pc' := 21) dX12_setWork_20 rfl ps_130 kd_130 (by decide) h.1.1 h.1.2.1 h.1.2.2 (fun M1 hM1 => ?_)
    have h := h.2 M1 hM1
    refine zr_aload_n (pc' := 22) (i := 0) dX12_setWork_21 rfl rfl rfl ?_
    refine zr_dup (pc' := 23) dX12_setWork_22 rfl rfl ?_
    refine zr_get (pc' := 26) dX12_setWork_23 rfl ps_102 kd_102 fl_X12_408 kc_12 (gv_102_57 _) ?_
    refine zr_iload_n (pc' := 27) (i := 3) dX12_setWork_26 rfl rfl rfl ?_
    refine zr_if_eq (tgt := 34) (pc' := 30) dX12_setWork_27 rfl rfl h.1 (fun hc => ?_) (fun hc => ?_)
    · have h := h.2.1 hc
      refine zr_iconst (pc' := 35) dX12_setWork_34 rfl ?_
      refine zr_iadd (pc' := 36) dX12_setWork_35 rfl ?_
      refine zr_put (pc' := 39) dX12_setWork_36 rfl ps_102 kd_102 fl_X12_408 kc_12 rfl nf_102_57 rfl trivial (fun M2 hM1 => ?_)
      have h := h M2 hM1
      exact zr_return (x := 0) dX12_setWork_39 rfl (Nat.le_refl _) (Nat.le_refl _) (And.intro rfl h)
    · have h := h.2.2 hc
      refine zr_iconst (pc' := 31) dX12_setWork_30 rfl ?_
      refine zr_goto (pc' := 35) dX12_setWork_31 rfl ?_
      refine zr_iadd (pc' := 36) dX12_setWork_35 rfl ?_
      refine zr_put (pc' := 39) dX12_setWork_36 rfl ps_102 kd_102 fl_X12_408 kc_12 rfl nf_102_57 rfl trivial (fun M3 hM1 => ?_)
      have h := h M3 hM1
      exact zr_return (x := 0) dX12_setWork_39 rfl (Nat.le_refl _) (Nat.le_refl _) (And.intro rfl h)
  · have h := h.2.2 hc
    refine zr_aload_n (pc' := 5) (i := 0) dX12_setWork_4 rfl rfl rfl ?_
    refine zr_get (pc' := 8) dX12_setWork_5 rfl ps_102 kd_102 fl_X12_106 kc_12 (gv_102_56 _) ?_
    refine zr_iload_n (pc' := 9) (i := 1) dX12_setWork_8 rfl rfl rfl ?_
    refine zr_iload_n (pc' := 10) (i := 3) dX12_setWork_9 rfl rfl rfl ?_
    refine zr_zast (pc' := 11) dX12_setWork_10 rfl ps_131 kd_131 (by decide) h.1.1 h.1.2.1 h.1.2.2 (fun M4 hM1 => ?_)
    have h := h.2 M4 hM1
    refine zr_goto (pc' := 21) dX12_setWork_11 rfl ?_
    refine zr_aload_n (pc' := 22) (i := 0) dX12_setWork_21 rfl rfl rfl ?_
    refine zr_dup (pc' := 23) dX12_setWork_22 rfl rfl ?_
    refine zr_get (pc' := 26) dX12_setWork_23 rfl ps_102 kd_102 fl_X12_408 kc_12 (gv_102_57 _) ?_
    refine zr_iload_n (pc' := 27) (i := 3) dX12_setWork_26 rfl rfl rfl ?_
    refine zr_if_eq (tgt := 34) (pc' := 30) dX12_setWork_27 rfl rfl h.1 (fun hc => ?_) (fun hc => ?_)
    · have h := h.2.1 hc
      refine zr_iconst (pc' := 35) dX12_setWork_34 rfl ?_
      refine zr_iadd (pc' := 36) dX12_setWork_35 rfl ?_
      refine zr_put (pc' := 39) dX12_setWork_36 rfl ps_102 kd_102 fl_X12_408 kc_12 rfl nf_102_57 rfl trivial (fun M5 hM1 => ?_)
      have h := h M5 hM1
      exact zr_return (x := 0) dX12_setWork_39 rfl (Nat.le_refl _) (Nat.le_refl _) (And.intro rfl h)
    · have h := h.2.2 hc
      refine zr_iconst (pc' := 31) dX12_setWork_30 rfl ?_
      refine zr_goto (pc' := 35) dX12_setWork_31 rfl ?_
      refine zr_iadd (pc' := 36) dX12_setWork_35 rfl ?_
      refine zr_put (pc' := 39) dX12_setWork_36 rfl ps_102 kd_102 fl_X12_408 kc_12 rfl nf_102_57 rfl trivial (fun M6 hM1 => ?_)
      have h := h M6 hM1
      exact zr_return (x := 0) dX12_setWork_39 rfl (Nat.le_refl _) (Nat.le_refl _) (And.intro rfl h)
set_option maxRecDepth 20000 in
theorem vcX12_work {E : zE} {M : zM} {Q : Int → zM → Prop} (l1 l2 l3 : Int)
    (h : (∀ M1, M1 = zup M 102 2 0 → (zP E mX12_isCell [.inr (.inr 102), .inl l1] M1 (fun r2 M3 => ((zR r2) ∧ ((r2 = 0 → Q 0 M3) ∧ (¬ r2 = 0 → ((zR l3) ∧ ((l3 = 0 → (zP E mX12_hasWork [.inr (.inr 102), .inl l1, .inl l2] M3 (fun r4 M5 => ((zR r4) ∧ ((¬ r4 = 0 → (zP E mX12_setWork [.inr (.inr 102), .inl l1, .inl l2, .inl l3] M5 (fun r6 M7 => Q 1 M7))) ∧ (r4 = 0 → Q 0 M5)))))) ∧ (¬ l3 = 0 → (zP E mX12_mayWork [.inr (.inr 102), .inl l1, .inl l2] M3 (fun r8 M9 => ((zR r8) ∧ ((¬ r8 = 0 → (zP E mX12_setWork [.inr (.inr 102), .inl l1, .inl l2, .inl l3] M9 (fun r10 M11 => Q 1 M11))) ∧ (r8 = 0 → Q 0 M9)))))))))))))))
    : zP E mX12_work [.inr (.inr 102), .inl l1, .inl l2, .inl l3] M Q := by
  refine zP_of (by decide +kernel) rfl (Nat.le_of_ble_eq_true rfl) ?_
  show zA E zNN (0, 0) mX12_work 0 [(0, .inr (.inr 102)), (1, .inl l1), (2, .inl l2), (3, .inl l3)] [] M (zQ Q)
  refine zr_aload_n (pc' := 1) (i := 0) dX12_work_0 rfl rfl rfl ?_
  refine zr_iconst (pc' := 2) dX12_work_1 rfl ?_
  refine zr_put (pc' := 5) dX12_work_2 rfl ps_102 kd_102 fl_X12_208 kc_12 rfl nf_102_2 rfl trivial (fun M1 hM1 => ?_)
  have h := h M1 hM1
  refine zr_aload_n (pc' := 6) (i := 0) dX12_work_5 rfl rfl rfl ?_
  refine zr_iload_n (pc' := 7) (i := 1) dX12_work_6 rfl rfl rfl ?_
  refine zn_callV (pc' := 10) (args := [.inl l1]) (st := []) (st' := fun r2 => [.inl r2]) dX12_work_7 rfl cv_X12_423 ⟨rfl, rfl, by decide, by decide⟩ rfl ps_102 kd_102 rfl rfl (Nat.le_of_ble_eq_true rfl) (fun _ => rfl) h ?_
  intro r2 M3 h
  refine zr_if_eq (tgt := 38) (pc' := 13) dX12_work_10 rfl rfl h.1 (fun hc => ?_) (fun hc => ?_)
  · have h := h.2.1 hc
    refine zr_iconst (pc' := 39) dX12_work_38 rfl ?_
    exact zr_ireturn dX12_work_39 rfl rfl (Or.inl rfl) (Nat.le_refl _) (Nat.le_refl _) (And.intro rfl h)
  · have h := h.2.2 hc
    refine zr_iload_n (pc' := 14) (i := 3) dX12_work_13 rfl rfl rfl ?_
    refine zr_if_eq (tgt := 29) (pc' := 17) dX12_work_14 rfl rfl h.1 (fun hc => ?_) (fun hc => ?_)
    · have h := h.2.1 hc
      refine zr_aload_n (pc' := 30) (i := 0) dX12_work_29 rfl rfl rfl ?_
      refine zr_iload_n (pc' := 31) (i := 1) dX12_work_30 rfl rfl rfl ?_
      refine zr_iload_n (pc' := 32) (i := 2) dX12_work_31 rfl rfl rfl ?_
      refine zn_callV (pc' := 35) (args := [.inl l1, .inl l2]) (st := []) (st' := fun r4 => [.inl r4]) dX12_work_32 rfl cv_X12_426 ⟨rfl, rfl, by decide, by decide⟩ rfl ps_102 kd_102 rfl rfl (Nat.le_of_ble_eq_true rfl) (fun _ => rfl) h ?_
      intro r4 M5 h
      refine zr_if_ne (tgt := 40) (pc' := 38) dX12_work_35 rfl rfl h.1 (fun hc => ?_) (fun hc => ?_)
      · have h := h.2.1 hc
        refine zr_aload_n (pc' := 41) (i := 0) dX12_work_40 rfl rfl rfl ?_
        refine zr_iload_n (pc' := 42) (i := 1) dX12_work_41 rfl rfl rfl ?_
        refine zr_iload_n (pc' := 43) (i := 2) dX12_work_42 rfl rfl rfl ?_
        refine zr_iload_n (pc' := 44) (i := 3) dX12_work_43 rfl rfl rfl ?_
        refine zn_callV (pc' := 47) (args := [.inl l1, .inl l2, .inl l3]) (st := []) (st' := fun _ => []) dX12_work_44 rfl cv_X12_433 ⟨rfl, rfl, by decide, by decide⟩ rfl ps_102 kd_102 rfl rfl (Nat.le_of_ble_eq_true rfl) (fun _ => rfl) h ?_
        intro r6 M7 h
        refine zr_iconst (pc' := 48) dX12_work_47 rfl ?_
        exact zr_ireturn dX12_work_48 rfl rfl (Or.inr rfl) (Nat.le_refl _) (Nat.le_refl _) (And.intro rfl h)
      · have h := h.2.2 hc
        refine zr_iconst (pc' := 39) dX12_work_38 rfl ?_
        exact zr_ireturn dX12_work_39 rfl rfl (Or.inl rfl) (Nat.le_refl _) (Nat.le_refl _) (And.intro rfl h)
    · have h := h.2.2 hc
      refine zr_aload_n (pc' := 18) (i := 0) dX12_work_17 rfl rfl rfl ?_
      refine zr_iload_n (pc' := 19) (i := 1) dX12_work_18 rfl rfl rfl ?_
      refine zr_iload_n (pc' := 20) (i := 2) dX12_work_19 rfl rfl rfl ?_
      refine zn_callV (pc' := 23) (args := [.inl l1, .inl l2]) (st := []) (st' := fun r8 => [.inl r8]) dX12_work_20 rfl cv_X12_430 ⟨rfl, rfl, by decide, by decide⟩ rfl ps_102 kd_102 rfl rfl (Nat.le_of_ble_eq_true rfl) (fun _ => rfl) h ?_
      intro r8 M9 h
      refine zr_if_ne (tgt := 40) (pc' := 26) dX12_work_23 rfl rfl h.1 (fun hc => ?_) (fun hc => ?_)
      · have h := h.2.1 hc
        refine zr_aload_n (pc' := 41) (i := 0) dX12_work_40 rfl rfl rfl ?_
        refine zr_iload_n (pc' := 42) (i := 1) dX12_work_41 rfl rfl rfl ?_
        refine zr_iload_n (pc' := 43) (i := 2) dX12_work_42 rfl rfl rfl ?_
        refine zr_iload_n (pc' := 44) (i := 3) dX12_work_43 rfl rfl rfl ?_
        refine zn_callV (pc' := 47) (args := [.inl l1, .inl l2, .inl l3]) (st := []) (st' := fun _ => []) dX12_work_44 rfl cv_X12_433 ⟨rfl, rfl, by decide, by decide⟩ rfl ps_102 kd_102 rfl rfl (Nat.le_of_ble_eq_true rfl) (fun _ => rfl) h ?_
        intro r10 M11 h
        refine zr_iconst (pc' := 48) dX12_work_47 rfl ?_
        exact zr_ireturn dX12_work_48 rfl rfl (Or.inr rfl) (Nat.le_refl _) (Nat.le_refl _) (And.intro rfl h)
      · have h := h.2.2 hc
        refine zr_goto (pc' := 38) dX12_work_26 rfl ?_
        refine zr_iconst (pc' := 39) dX12_work_38 rfl ?_
        exact zr_ireturn dX12_work_39 rfl rfl (Or.inl rfl) (Nat.le_refl _) (Nat.le_refl _) (And.intro rfl h)
set_option maxRecDepth 20000 in
theorem vcX12_world {E : zE} {M : zM} {Q : Int → zM → Prop} (l1 l2 l3 l4 l5 : Int)
    (h : (∀ M1, M1 = zup M 102 2 0 → ((zR (M1 102 58)) ∧ (((M1 102 58) = 3 → Q (-1) M1) ∧ (¬ (M1 102 58) = 3 → (zP E mX12_isHour [.inl l1] M1 (fun r2 M3 => ((zR r2) ∧ ((r2 = 0 → Q (-1) M3) ∧ (¬ r2 = 0 → (zP E mX12_isCell [.inr (.inr 102), .inl l2] M3 (fun r4 M5 => ((zR r4) ∧ ((r4 = 0 → Q (-1) M5) ∧ (¬ r4 = 0 → (zP E mX12_isIn [.inl l3, .inl 1, .inl 99] M5 (fun r6 M7 => ((zR r6) ∧ ((r6 = 0 → Q (-1) M7) ∧ (¬ r6 = 0 → (zP E mX12_isIn [.inl l4, .inl 1, .inl 12] M7 (fun r8 M9 => ((zR r8) ∧ ((r8 = 0 → Q (-1) M9) ∧ (¬ r8 = 0 → (zP E mX12_isIn [.inl l5, .inl 1, .inl 99] M9 (fun r10 M11 => ((zR r10) ∧ ((¬ r10 = 0 → (0 ≤ M11 102 58 ∧ M11 102 58 < 3) ∧ (∀ M12, M12 = zup M11 132 ((M11 102 58).toNat) l1 → (0 ≤ M12 102 58 ∧ M12 102 58 < 3) ∧ (∀ M13, M13 = zup M12 133 ((M12 102 58).toNat) l2 → (0 ≤ M13 102 58 ∧ M13 102 58 < 3) ∧ (∀ M14, M14 = zup M13 134 ((M13 102 58).toNat) l3 → (0 ≤ M14 102 58 ∧ M14 102 58 < 3) ∧ (∀ M15, M15 = zup M14 135 ((M14 102 58).toNat) l4 → (0 ≤ M15 102 58 ∧ M15 102 58 < 3) ∧ (∀ M16, M16 = zup M15 136 ((M15 102 58).toNat) l5 → (∀ M17, M17 = zup M16 102 58 ((M16 102 58) + 1) → Q ((M17 102 58) - 1) M17))))))) ∧ (r10 = 0 → Q (-1) M11))))))))))))))))))))))))))))))
    : zP E mX12_world [.inr (.inr 102), .inl l1, .inl l2, .inl l3, .inl l4, .inl l5] M Q := by
  refine zP_of (by decide +kernel) rfl (Nat.le_of_ble_eq_true rfl) ?_
  show zA E zNN (0, 0) mX12_world 0 [(0, .inr (.inr 102)), (1, .inl l1), (2, .inl l2), (3, .inl l3), (4, .inl l4), (5, .inl l5)] [] M (zQ Q)
  refine zr_aload_n (pc' := 1) (i := 0) dX12_world_0 rfl rfl rfl ?_
  refine zr_iconst (pc' := 2) dX12_world_1 rfl ?_
  refine zr_put (pc' := 5) dX12_world_2 rfl ps_102 kd_102 fl_X12_208 kc_12 rfl nf_102_2 rfl trivial (fun M1 hM1 => ?_)
  have h := h M1 hM1
  refine zr_aload_n (pc' := 6) (i := 0) dX12_world_5 rfl rfl rfl ?_
  refine zr_get (pc' := 9) dX12_world_6 rfl ps_102 kd_102 fl_X12_411 kc_12 (gv_102_58 _) ?_
  refine zr_iconst (pc' := 10) dX12_world_9 rfl ?_
  refine zr_icmp_eq (tgt := 60) (pc' := 13) dX12_world_10 rfl rfl h.1 (zRd rfl) (fun hc => ?_) (fun hc => ?_)
  · have h := h.2.1 hc
    refine zr_iconst (pc' := 61) dX12_world_60 rfl ?_
    exact zr_ireturn dX12_world_61 rfl rfl trivial (Nat.le_refl _) (Nat.le_refl _) (And.intro rfl h)
  · have h := h.2.2 hc
    refine zr_iload_n (pc' := 14) (i := 1) dX12_world_13 rfl rfl rfl ?_
    refine zn_callS (pc' := 17) (args := [.inl l1]) (st := []) (st' := fun r2 => [.inl r2]) dX12_world_14 rfl cs_X12_231 ⟨rfl, rfl, by decide, by decide⟩ rfl rfl rfl (Nat.le_of_ble_eq_true rfl) (fun _ => rfl) h ?_
    intro r2 M3 h
    refine zr_if_eq (tgt := 60) (pc' := 20) dX12_world_17 rfl rfl h.1 (fun hc => ?_) (fun hc => ?_)
    · have h := h.2.1 hc
      refine zr_iconst (pc' := 61) dX12_world_60 rfl ?_
      exact zr_ireturn dX12_world_61 rfl rfl trivial (Nat.le_refl _) (Nat.le_refl _) (And.intro rfl h)
    · have h := h.2.2 hc
      refine zr_aload_n (pc' := 21) (i := 0) dX12_world_20 rfl rfl rfl ?_
      refine zr_iload_n (pc' := 22) (i := 2) dX12_world_21 rfl rfl rfl ?_
      refine zn_callV (pc' := 25) (args := [.inl l2]) (st := []) (st' := fun r4 => [.inl r4]) dX12_world_22 rfl cv_X12_423 ⟨rfl, rfl, by decide, by decide⟩ rfl ps_102 kd_102 rfl rfl (Nat.le_of_ble_eq_true rfl) (fun _ => rfl) h ?_
      intro r4 M5 h
      refine zr_if_eq (tgt := 60) (pc' := 28) dX12_world_25 rfl rfl h.1 (fun hc => ?_) (fun hc => ?_)
      · have h := h.2.1 hc
        refine zr_iconst (pc' := 61) dX12_world_60 rfl ?_
        exact zr_ireturn dX12_world_61 rfl rfl trivial (Nat.le_refl _) (Nat.le_refl _) (And.intro rfl h)
      · have h := h.2.2 hc
        refine zr_iload_n (pc' := 29) (i := 3) dX12_world_28 rfl rfl rfl ?_
        refine zr_iconst (pc' := 30) dX12_world_29 rfl ?_
        refine zr_bipush (pc' := 32) dX12_world_30 rfl rfl ?_
        refine zn_callS (pc' := 35) (args := [.inl l3, .inl 1, .inl 99]) (st := []) (st' := fun r6 => [.inl r6]) dX12_world_32 rfl cs_X12_214 ⟨rfl, rfl, by decide, by decide⟩ rfl rfl rfl (Nat.le_of_ble_eq_true rfl) (fun _ => rfl) h ?_
        intro r6 M7 h
        refine zr_if_eq (tgt := 60) (pc' := 38) dX12_world_35 rfl rfl h.1 (fun hc => ?_) (fun hc => ?_)
        · have h := h.2.1 hc
          refine zr_iconst (pc' := 61) dX12_world_60 rfl ?_
          exact zr_ireturn dX12_world_61 rfl rfl trivial (Nat.le_refl _) (Nat.le_refl _) (And.intro rfl h)
        · have h := h.2.2 hc
          refine zr_iload (pc' := 40) dX12_world_38 rfl rfl ?_
          refine zr_iconst (pc' := 41) dX12_world_40 rfl ?_
          refine zr_bipush (pc' := 43) dX12_world_41 rfl rfl ?_
          refine zn_callS (pc' := 46) (args := [.inl l4, .inl 1, .inl 12]) (st := []) (st' := fun r8 => [.inl r8]) dX12_world_43 rfl cs_X12_214 ⟨rfl, rfl, by decide, by decide⟩ rfl rfl rfl (Nat.le_of_ble_eq_true rfl) (fun _ => rfl) h ?_
          intro r8 M9 h
          refine zr_if_eq (tgt := 60) (pc' := 49) dX12_world_46 rfl rfl h.1 (fun hc => ?_) (fun hc => ?_)
          · have h := h.2.1 hc
            refine zr_iconst (pc' := 61) dX12_world_60 rfl ?_
            exact zr_ireturn dX12_world_61 rfl rfl trivial (Nat.le_refl _) (Nat.le_refl _) (And.intro rfl h)
          · have h := h.2.2 hc
            refine zr_iload (pc' := 51) dX12_world_49 rfl rfl ?_
            refine zr_iconst (pc' := 52) dX12_world_51 rfl ?_
            refine zr_bipush (pc' := 54) dX12_world_52 rfl rfl ?_
            refine zn_callS (pc' := 57) (args := [.inl l5, .inl 1, .inl 99]) (st := []) (st' := fun r10 => [.inl r10]) dX12_world_54 rfl cs_X12_214 ⟨rfl, rfl, by decide, by decide⟩ rfl rfl rfl (Nat.le_of_ble_eq_true rfl) (fun _ => rfl) h ?_
            intro r10 M11 h
            refine zr_if_ne (tgt := 62) (pc' := 60) dX12_world_57 rfl rfl h.1 (fun hc => ?_) (fun hc => ?_)
            · have h := h.2.1 hc
              refine zr_aload_n (pc' := 63) (i := 0) dX12_world_62 rfl rfl rfl ?_
              refine zr_get (pc' := 66) dX12_world_63 rfl ps_102 kd_102 fl_X12_109 kc_12 (gv_102_59 _) ?_
              refine zr_aload_n (pc' := 67) (i := 0) dX12_world_66 rfl rfl rfl ?_
              refine zr_get (pc' := 70) dX12_world_67 rfl ps_102 kd_102 fl_X12_411 kc_12 (gv_102_58 _) ?_
              refine zr_iload_n (pc' := 71) (i := 1) dX12_world_70 rfl rfl rfl ?_
              refine zr_iast (pc' := 72) dX12_world_71 rfl ps_132 kd_132 (by decide) h.1.1 h.1.2 (fun M12 hM1 => ?_)
              have h := h.2 M12 hM1
              refine zr_aload_n (pc' := 73) (i := 0) dX12_world_72 rfl rfl rfl ?_
              refine zr_get (pc' := 76) dX12_world_73 rfl ps_102 kd_102 fl_X12_112 kc_12 (gv_102_60 _) ?_
              refine zr_aload_n (pc' := 77) (i := 0) dX12_world_76 rfl rfl rfl ?_
              refine zr_get (pc' := 80) dX12_world_77 rfl ps_102 kd_102 fl_X12_411 kc_12 (gv_102_58 _) ?_
              refine zr_iload_n (pc' := 81) (i := 2) dX12_world_80 rfl rfl rfl ?_
              refine zr_iast (pc' := 82) dX12_world_81 rfl ps_133 kd_133 (by decide) h.1.1 h.1.2 (fun M13 hM1 => ?_)
              have h := h.2 M13 hM1
              refine zr_aload_n (pc' := 83) (i := 0) dX12_world_82 rfl rfl rfl ?_
              refine zr_get (pc' := 86) dX12_world_83 rfl ps_102 kd_102 fl_X12_115 kc_12 (gv_102_61 _) ?_
              refine zr_aload_n (pc' := 87) (i := 0) dX12_world_86 rfl rfl rfl ?_
              refine zr_get (pc' := 90) dX12_world_87 rfl ps_102 kd_102 fl_X12_411 kc_12 (gv_102_58 _) ?_
              refine zr_iload_n (pc' := 91) (i := 3) dX12_world_90 rfl rfl rfl ?_
              refine zr_iast (pc' := 92) dX12_world_91 rfl ps_134 kd_134 (by decide) h.1.1 h.1.2 (fun M14 hM1 => ?_)
              have h := h.2 M14 hM1
              refine zr_aload_n (pc' := 93) (i := 0) dX12_world_92 rfl rfl rfl ?_
              refine zr_get (pc' := 96) dX12_world_93 rfl ps_102 kd_102 fl_X12_118 kc_12 (gv_102_62 _) ?_
              refine zr_aload_n (pc' := 97) (i := 0) dX12_world_96 rfl rfl rfl ?_
              refine zr_get (pc' := 100) dX12_world_97 rfl ps_102 kd_102 fl_X12_411 kc_12 (gv_102_58 _) ?_
              refine zr_iload (pc' := 102) dX12_world_100 rfl rfl ?_
              refine zr_iast (pc' := 103) dX12_world_102 rfl ps_135 kd_135 (by decide) h.1.1 h.1.2 (fun M15 hM1 => ?_)
              have h := h.2 M15 hM1
              refine zr_aload_n (pc' := 104) (i := 0) dX12_world_103 rfl rfl rfl ?_
              refine zr_get (pc' := 107) dX12_world_104 rfl ps_102 kd_102 fl_X12_121 kc_12 (gv_102_63 _) ?_
              refine zr_aload_n (pc' := 108) (i := 0) dX12_world_107 rfl rfl rfl ?_
              refine zr_get (pc' := 111) dX12_world_108 rfl ps_102 kd_102 fl_X12_411 kc_12 (gv_102_58 _) ?_
              refine zr_iload (pc' := 113) dX12_world_111 rfl rfl ?_
              refine zr_iast (pc' := 114) dX12_world_113 rfl ps_136 kd_136 (by decide) h.1.1 h.1.2 (fun M16 hM1 => ?_)
              have h := h.2 M16 hM1
              refine zr_aload_n (pc' := 115) (i := 0) dX12_world_114 rfl rfl rfl ?_
              refine zr_dup (pc' := 116) dX12_world_115 rfl rfl ?_
              refine zr_get (pc' := 119) dX12_world_116 rfl ps_102 kd_102 fl_X12_411 kc_12 (gv_102_58 _) ?_
              refine zr_iconst (pc' := 120) dX12_world_119 rfl ?_
              refine zr_iadd (pc' := 121) dX12_world_120 rfl ?_
              refine zr_put (pc' := 124) dX12_world_121 rfl ps_102 kd_102 fl_X12_411 kc_12 rfl nf_102_58 rfl trivial (fun M17 hM1 => ?_)
              have h := h M17 hM1
              refine zr_aload_n (pc' := 125) (i := 0) dX12_world_124 rfl rfl rfl ?_
              refine zr_get (pc' := 128) dX12_world_125 rfl ps_102 kd_102 fl_X12_411 kc_12 (gv_102_58 _) ?_
              refine zr_iconst (pc' := 129) dX12_world_128 rfl ?_
              refine zr_isub (pc' := 130) dX12_world_129 rfl ?_
              exact zr_ireturn dX12_world_130 rfl rfl trivial (Nat.le_refl _) (Nat.le_refl _) (And.intro rfl h)
            · have h := h.2.2 hc
              refine zr_iconst (pc' := 61) dX12_world_60 rfl ?_
              exact zr_ireturn dX12_world_61 rfl rfl trivial (Nat.le_refl _) (Nat.le_refl _) (And.intro rfl h)
set_option maxRecDepth 20000 in
theorem vcX12_besideOf {E : zE} {M : zM} {Q : Int → zM → Prop} (l1 l2 : Int)
    (h : (zR l1 ∧ zR (M 102 51) ∧ M 102 51 ≠ 0) ∧ ((zR l2) ∧ ((¬ l2 = 0 → ((zR l2) ∧ ((¬ l2 = 1 → ((zR l2) ∧ ((¬ l2 = 2 → ((zR (l1 + (M 102 51)) ∧ zR ((M 102 51) * (M 102 52))) ∧ ((((M 102 51) * (M 102 52)) ≤ (l1 + (M 102 51)) → Q (-1) M) ∧ ((l1 + (M 102 51)) < ((M 102 51) * (M 102 52)) → Q (l1 + (M 102 51)) M)))) ∧ (l2 = 2 → ((zR (Int.tmod l1 (M 102 51)) ∧ zR ((M 102 51) - 1)) ∧ ((((M 102 51) - 1) ≤ (Int.tmod l1 (M 102 51)) → Q (-1) M) ∧ ((Int.tmod l1 (M 102 51)) < ((M 102 51) - 1) → Q (l1 + 1) M))))))) ∧ (l2 = 1 → ((zR (Int.tmod l1 (M 102 51))) ∧ (((Int.tmod l1 (M 102 51)) ≤ 0 → Q (-1) M) ∧ (0 < (Int.tmod l1 (M 102 51)) → Q (l1 - 1) M))))))) ∧ (l2 = 0 → Q (l1 - (M 102 51)) M))))
    : zP E mX12_besideOf [.inr (.inr 102), .inl l1, .inl l2] M Q := by
  refine zP_of (by decide +kernel) rfl (Nat.le_of_ble_eq_true rfl) ?_
  show zA E zNN (0, 0) mX12_besideOf 0 [(0, .inr (.inr 102)), (1, .inl l1), (2, .inl l2)] [] M (zQ Q)
  refine zr_iload_n (pc' := 1) (i := 1) dX12_besideOf_0 rfl rfl rfl ?_
  refine zr_aload_n (pc' := 2) (i := 0) dX12_besideOf_1 rfl rfl rfl ?_
  refine zr_get (pc' := 5) dX12_besideOf_2 rfl ps_102 kd_102 fl_X12_91 kc_12 (gv_102_51 _) ?_
  refine zr_irem (pc' := 6) dX12_besideOf_5 rfl h.1.1 h.1.2.1 h.1.2.2 ?_
  have h := h.2
  refine zr_istore_n (pc' := 7) (i := 3) (al' := [(3, .inl (Int.tmod l1 (M 102 51))), (0, .inr (.inr 102)), (1, .inl l1), (2, .inl l2)]) dX12_besideOf_6 rfl rfl (by decide) rfl ?_
  refine zr_iload_n (pc' := 8) (i := 2) dX12_besideOf_7 rfl rfl rfl ?_
  refine zr_if_ne (tgt := 18) (pc' := 11) dX12_besideOf_8 rfl rfl h.1 (fun hc => ?_) (fun hc => ?_)
  · have h := h.2.1 hc
    refine zr_iload_n (pc' := 19) (i := 2) dX12_besideOf_18 rfl rfl rfl ?_
    refine zr_iconst (pc' := 20) dX12_besideOf_19 rfl ?_
    refine zr_icmp_ne (tgt := 35) (pc' := 23) dX12_besideOf_20 rfl rfl h.1 (zRd rfl) (fun hc => ?_) (fun hc => ?_)
    · have h := h.2.1 hc
      refine zr_iload_n (pc' := 36) (i := 2) dX12_besideOf_35 rfl rfl rfl ?_
      refine zr_iconst (pc' := 37) dX12_besideOf_36 rfl ?_
      refine zr_icmp_ne (tgt := 58) (pc' := 40) dX12_besideOf_37 rfl rfl h.1 (zRd rfl) (fun hc => ?_) (fun hc => ?_)
      · have h := h.2.1 hc
        refine zr_iload_n (pc' := 59) (i := 1) dX12_besideOf_58 rfl rfl rfl ?_
        refine zr_aload_n (pc' := 60) (i := 0) dX12_besideOf_59 rfl rfl rfl ?_
        refine zr_get (pc' := 63) dX12_besideOf_60 rfl ps_102 kd_102 fl_X12_91 kc_12 (gv_102_51 _) ?_
        refine zr_iadd (pc' := 64) dX12_besideOf_63 rfl ?_
        refine zr_aload_n (pc' := 65) (i := 0) dX12_besideOf_64 rfl rfl rfl ?_
        refine zr_get (pc' := 68) dX12_besideOf_65 rfl ps_102 kd_102 fl_X12_91 kc_12 (gv_102_51 _) ?_
        refine zr_aload_n (pc' := 69) (i := 0) dX12_besideOf_68 rfl rfl rfl ?_
        refine zr_get (pc' := 72) dX12_besideOf_69 rfl ps_102 kd_102 fl_X12_94 kc_12 (gv_102_52 _) ?_
        refine zr_imul (pc' := 73) dX12_besideOf_72 rfl ?_
        refine zr_icmp_ge (tgt := 85) (pc' := 76) dX12_besideOf_73 rfl rfl h.1.1 h.1.2 (fun hc => ?_) (fun hc => ?_)
        · have h := h.2.1 hc
          refine zr_iconst (pc' := 86) dX12_besideOf_85 rfl ?_
          exact zr_ireturn dX12_besideOf_86 rfl rfl trivial (Nat.le_refl _) (Nat.le_refl _) (And.intro rfl h)
        · have h := h.2.2 hc
          refine zr_iload_n (pc' := 77) (i := 1) dX12_besideOf_76 rfl rfl rfl ?_
          refine zr_aload_n (pc' := 78) (i := 0) dX12_besideOf_77 rfl rfl rfl ?_
          refine zr_get (pc' := 81) dX12_besideOf_78 rfl ps_102 kd_102 fl_X12_91 kc_12 (gv_102_51 _) ?_
          refine zr_iadd (pc' := 82) dX12_besideOf_81 rfl ?_
          refine zr_goto (pc' := 86) dX12_besideOf_82 rfl ?_
          exact zr_ireturn dX12_besideOf_86 rfl rfl trivial (Nat.le_refl _) (Nat.le_refl _) (And.intro rfl h)
      · have h := h.2.2 hc
        refine zr_iload_n (pc' := 41) (i := 3) dX12_besideOf_40 rfl rfl rfl ?_
        refine zr_aload_n (pc' := 42) (i := 0) dX12_besideOf_41 rfl rfl rfl ?_
        refine zr_get (pc' := 45) dX12_besideOf_42 rfl ps_102 kd_102 fl_X12_91 kc_12 (gv_102_51 _) ?_
        refine zr_iconst (pc' := 46) dX12_besideOf_45 rfl ?_
        refine zr_isub (pc' := 47) dX12_besideOf_46 rfl ?_
        refine zr_icmp_ge (tgt := 56) (pc' := 50) dX12_besideOf_47 rfl rfl h.1.1 h.1.2 (fun hc => ?_) (fun hc => ?_)
        · have h := h.2.1 hc
          refine zr_iconst (pc' := 57) dX12_besideOf_56 rfl ?_
          exact zr_ireturn dX12_besideOf_57 rfl rfl trivial (Nat.le_refl _) (Nat.le_refl _) (And.intro rfl h)
        · have h := h.2.2 hc
          refine zr_iload_n (pc' := 51) (i := 1) dX12_besideOf_50 rfl rfl rfl ?_
          refine zr_iconst (pc' := 52) dX12_besideOf_51 rfl ?_
          refine zr_iadd (pc' := 53) dX12_besideOf_52 rfl ?_
          refine zr_goto (pc' := 57) dX12_besideOf_53 rfl ?_
          exact zr_ireturn dX12_besideOf_57 rfl rfl trivial (Nat.le_refl _) (Nat.le_refl _) (And.intro rfl h)
    · have h := h.2.2 hc
      refine zr_iload_n (pc' := 24) (i := 3) dX12_besideOf_23 rfl rfl rfl ?_
      refine zr_if_le (tgt := 33) (pc' := 27) dX12_besideOf_24 rfl rfl h.1 (fun hc => ?_) (fun hc => ?_)
      · have h := h.2.1 hc
        refine zr_iconst (pc' := 34) dX12_besideOf_33 rfl ?_
        exact zr_ireturn dX12_besideOf_34 rfl rfl trivial (Nat.le_refl _) (Nat.le_refl _) (And.intro rfl h)
      · have h := h.2.2 hc
        refine zr_iload_n (pc' := 28) (i := 1) dX12_besideOf_27 rfl rfl rfl ?_
        refine zr_iconst (pc' := 29) dX12_besideOf_28 rfl ?_
        refine zr_isub (pc' := 30) dX12_besideOf_29 rfl ?_
        refine zr_goto (pc' := 34) dX12_besideOf_30 rfl ?_
        exact zr_ireturn dX12_besideOf_34 rfl rfl trivial (Nat.le_refl _) (Nat.le_refl _) (And.intro rfl h)
  · have h := h.2.2 hc
    refine zr_iload_n (pc' := 12) (i := 1) dX12_besideOf_11 rfl rfl rfl ?_
    refine zr_aload_n (pc' := 13) (i := 0) dX12_besideOf_12 rfl rfl rfl ?_
    refine zr_get (pc' := 16) dX12_besideOf_13 rfl ps_102 kd_102 fl_X12_91 kc_12 (gv_102_51 _) ?_
    refine zr_isub (pc' := 17) dX12_besideOf_16 rfl ?_
    exact zr_ireturn dX12_besideOf_17 rfl rfl trivial (Nat.le_refl _) (Nat.le_refl _) (And.intro rfl h)
set_option maxRecDepth 20000 in
theorem vcX12_lowestBy {E : zE} {M : zM} {Q : Int → zM → Prop} (l1 l2 : Int) (I5 : Nat → Int → Int → Int → Int → zM → Prop)
    (h : ∃ n', I5 n' l1 l2 (-1) 0 M)
    (h5 : ∀ (n : Nat) (l1 l2 l3 l4 : Int) (M : zM), I5 n l1 l2 l3 l4 M → ((zR l4) ∧ ((4 ≤ l4 → Q l3 M) ∧ (l4 < 4 → (zP E mX12_besideOf [.inr (.inr 102), .inl l1, .inl l4] M (fun r1 M2 => ((zR r1) ∧ ((r1 < 0 → ∃ n', n' < n ∧ I5 n' l1 l2 l3 (l4 + 1) M2) ∧ (0 ≤ r1 → ((zR l3) ∧ ((l3 < 0 → ∃ n', n' < n ∧ I5 n' l1 l2 r1 (l4 + 1) M2) ∧ (0 ≤ l3 → (zP E mX12_topOf [.inr (.inr 102), .inl (l2 + r1)] M2 (fun r3 M4 => (zP E mX12_topOf [.inr (.inr 102), .inl (l2 + l3)] M4 (fun r5 M6 => ((zR r3 ∧ zR r5) ∧ ((r5 ≤ r3 → ∃ n', n' < n ∧ I5 n' l1 l2 l3 (l4 + 1) M6) ∧ (r3 < r5 → ∃ n', n' < n ∧ I5 n' l1 l2 r1 (l4 + 1) M6)))))))))))))))))))
    : zP E mX12_lowestBy [.inr (.inr 102), .inl l1, .inl l2] M Q := by
  have key : ∀ n : Nat, (∀ (l1 l2 l3 l4 : Int) (M : zM), I5 n l1 l2 l3 l4 M → zA E zNN (0, 0) mX12_lowestBy 5 [(0, .inr (.inr 102)), (1, .inl l1), (2, .inl l2), (3, .inl l3), (4, .inl l4)] [] M (zQ Q)) := by
    intro n
    induction n using Nat.strongRecOn with
    | ind n ih =>
      intro l1 l2 l3 l4 M h
      have h := h5 n l1 l2 l3 l4 M h
      refine zr_iload (pc' := 7) dX12_lowestBy_5 rfl rfl ?_
      refine zr_iconst (pc' := 8) dX12_lowestBy_7 rfl ?_
      refine zr_icmp_ge (tgt := 56) (pc' := 11) dX12_lowestBy_8 rfl rfl h.1 (zRd rfl) (fun hc => ?_) (fun hc => ?_)
      · have h := h.2.1 hc
        refine zr_iload_n (pc' := 57) (i := 3) dX12_lowestBy_56 rfl rfl rfl ?_
        exact zr_ireturn dX12_lowestBy_57 rfl rfl trivial (Nat.le_refl _) (Nat.le_refl _) (And.intro rfl h)
      · have h := h.2.2 hc
        refine zr_aload_n (pc' := 12) (i := 0) dX12_lowestBy_11 rfl rfl rfl ?_
        refine zr_iload_n (pc' := 13) (i := 1) dX12_lowestBy_12 rfl rfl rfl ?_
        refine zr_iload (pc' := 15) dX12_lowestBy_13 rfl rfl ?_
        refine zn_callV (pc' := 18) (args := [.inl l1, .inl l4]) (st := []) (st' := fun r1 => [.inl r1]) dX12_lowestBy_15 rfl cv_X12_437 ⟨rfl, rfl, by decide, by decide⟩ rfl ps_102 kd_102 rfl rfl (Nat.le_of_ble_eq_true rfl) (fun _ => rfl) h ?_
        intro r1 M2 h
        refine zr_istore (pc' := 20) (al' := [(5, .inl r1), (0, .inr (.inr 102)), (1, .inl l1), (2, .inl l2), (3, .inl l3), (4, .inl l4)]) dX12_lowestBy_18 rfl (by decide) rfl ?_
        refine zr_iload (pc' := 22) dX12_lowestBy_20 rfl rfl ?_
        refine zr_if_lt (tgt := 50) (pc' := 25) dX12_lowestBy_22 rfl rfl h.1 (fun hc => ?_) (fun hc => ?_)
        · have h := h.2.1 hc
          refine zr_iinc (pc' := 53) (al' := [(4, .inl (l4 + 1)), (5, .inl r1), (0, .inr (.inr 102)), (1, .inl l1), (2, .inl l2), (3, .inl l3)]) dX12_lowestBy_50 rfl rfl (by decide) rfl ?_
          refine zr_goto (pc' := 5) dX12_lowestBy_53 rfl ?_
          obtain ⟨n', hn, h⟩ := h
          exact zn_al ((ih n' hn) _ _ _ _ _ h) ⟨rfl, rfl, rfl, rfl, rfl, trivial⟩
        · have h := h.2.2 hc
          refine zr_iload_n (pc' := 26) (i := 3) dX12_lowestBy_25 rfl rfl rfl ?_
          refine zr_if_lt (tgt := 47) (pc' := 29) dX12_lowestBy_26 rfl rfl h.1 (fun hc => ?_) (fun hc => ?_)
          · have h := h.2.1 hc
            refine zr_iload (pc' := 49) dX12_lowestBy_47 rfl rfl ?_
            refine zr_istore_n (pc' := 50) (i := 3) (al' := [(3, .inl r1), (5, .inl r1), (0, .inr (.inr 102)), (1, .inl l1), (2, .inl l2), (4, .inl l4)]) dX12_lowestBy_49 rfl rfl (by decide) rfl ?_
            refine zr_iinc (pc' := 53) (al' := [(4, .inl (l4 + 1)), (3, .inl r1), (5, .inl r1), (0, .inr (.inr 102)), (1, .inl l1), (2, .inl l2)]) dX12_lowestBy_50 rfl rfl (by decide) rfl ?_
            refine zr_goto (pc' := 5) dX12_lowestBy_53 rfl ?_
            obtain ⟨n', hn, h⟩ := h
            exact zn_al ((ih n' hn) _ _ _ _ _ h) ⟨rfl, rfl, rfl, rfl, rfl, trivial⟩
          · have h := h.2.2 hc
            refine zr_aload_n (pc' := 30) (i := 0) dX12_lowestBy_29 rfl rfl rfl ?_
            refine zr_iload_n (pc' := 31) (i := 2) dX12_lowestBy_30 rfl rfl rfl ?_
            refine zr_iload (pc' := 33) dX12_lowestBy_31 rfl rfl ?_
            refine zr_iadd (pc' := 34) dX12_lowestBy_33 rfl ?_
            refine zn_callV (pc' := 37) (args := [.inl (l2 + r1)]) (st := []) (st' := fun r3 => [.inl r3]) dX12_lowestBy_34 rfl cv_X12_440 ⟨rfl, rfl, by decide, by decide⟩ rfl ps_102 kd_102 rfl rfl (Nat.le_of_ble_eq_true rfl) (fun _ => rfl) h ?_
            intro r3 M4 h
            refine zr_aload_n (pc' := 38) (i := 0) dX12_lowestBy_37 rfl rfl rfl ?_
            refine zr_iload_n (pc' := 39) (i := 2) dX12_lowestBy_38 rfl rfl rfl ?_
            refine zr_iload_n (pc' := 40) (i := 3) dX12_lowestBy_39 rfl rfl rfl ?_
            refine zr_iadd (pc' := 41) dX12_lowestBy_40 rfl ?_
            refine zn_callV (pc' := 44) (args := [.inl (l2 + l3)]) (st := [.inl r3]) (st' := fun r5 => [.inl r5, .inl r3]) dX12_lowestBy_41 rfl cv_X12_440 ⟨rfl, rfl, by decide, by decide⟩ rfl ps_102 kd_102 rfl rfl (Nat.le_of_ble_eq_true rfl) (fun _ => rfl) h ?_
            intro r5 M6 h
            refine zr_icmp_ge (tgt := 50) (pc' := 47) dX12_lowestBy_44 rfl rfl h.1.1 h.1.2 (fun hc => ?_) (fun hc => ?_)
            · have h := h.2.1 hc
              refine zr_iinc (pc' := 53) (al' := [(4, .inl (l4 + 1)), (5, .inl r1), (0, .inr (.inr 102)), (1, .inl l1), (2, .inl l2), (3, .inl l3)]) dX12_lowestBy_50 rfl rfl (by decide) rfl ?_
              refine zr_goto (pc' := 5) dX12_lowestBy_53 rfl ?_
              obtain ⟨n', hn, h⟩ := h
              exact zn_al ((ih n' hn) _ _ _ _ _ h) ⟨rfl, rfl, rfl, rfl, rfl, trivial⟩
            · have h := h.2.2 hc
              refine zr_iload (pc' := 49) dX12_lowestBy_47 rfl rfl ?_
              refine zr_istore_n (pc' := 50) (i := 3) (al' := [(3, .inl r1), (5, .inl r1), (0, .inr (.inr 102)), (1, .inl l1), (2, .inl l2), (4, .inl l4)]) dX12_lowestBy_49 rfl rfl (by decide) rfl ?_
              refine zr_iinc (pc' := 53) (al' := [(4, .inl (l4 + 1)), (3, .inl r1), (5, .inl r1), (0, .inr (.inr 102)), (1, .inl l1), (2, .inl l2)]) dX12_lowestBy_50 rfl rfl (by decide) rfl ?_
              refine zr_goto (pc' := 5) dX12_lowestBy_53 rfl ?_
              obtain ⟨n', hn, h⟩ := h
              exact zn_al ((ih n' hn) _ _ _ _ _ h) ⟨rfl, rfl, rfl, rfl, rfl, trivial⟩
  refine zP_of (by decide +kernel) rfl (Nat.le_of_ble_eq_true rfl) ?_
  show zA E zNN (0, 0) mX12_lowestBy 0 [(0, .inr (.inr 102)), (1, .inl l1), (2, .inl l2)] [] M (zQ Q)
  refine zr_iconst (pc' := 1) dX12_lowestBy_0 rfl ?_
  refine zr_istore_n (pc' := 2) (i := 3) (al' := [(3, .inl (-1)), (0, .inr (.inr 102)), (1, .inl l1), (2, .inl l2)]) dX12_lowestBy_1 rfl rfl (by decide) rfl ?_
  refine zr_iconst (pc' := 3) dX12_lowestBy_2 rfl ?_
  refine zr_istore (pc' := 5) (al' := [(4, .inl 0), (3, .inl (-1)), (0, .inr (.inr 102)), (1, .inl l1), (2, .inl l2)]) dX12_lowestBy_3 rfl (by decide) rfl ?_
  obtain ⟨n', h⟩ := h
  exact zn_al ((key n') _ _ _ _ _ h) ⟨rfl, rfl, rfl, rfl, rfl, trivial⟩
set_option maxRecDepth 20000 in
theorem vcX12_topOf {E : zE} {M : zM} {Q : Int → zM → Prop} (l1 : Int)
    (h : (0 ≤ l1 ∧ l1 < 832) ∧ (0 ≤ l1 ∧ l1 < 832) ∧ Q ((M 137 l1.toNat) + (M 138 l1.toNat)) M)
    : zP E mX12_topOf [.inr (.inr 102), .inl l1] M Q := by
  refine zP_of (by decide +kernel) rfl (Nat.le_of_ble_eq_true rfl) ?_
  show zA E zNN (0, 0) mX12_topOf 0 [(0, .inr (.inr 102)), (1, .inl l1)] [] M (zQ Q)
  refine zr_aload_n (pc' := 1) (i := 0) dX12_topOf_0 rfl rfl rfl ?_
  refine zr_get (pc' := 4) dX12_topOf_1 rfl ps_102 kd_102 fl_X12_124 kc_12 (gv_102_64 _) ?_
  refine zr_iload_n (pc' := 5) (i := 1) dX12_topOf_4 rfl rfl rfl ?_
  refine zr_iald (pc' := 6) dX12_topOf_5 rfl ps_137 kd_137 (by decide) h.1.1 h.1.2 ?_
  have h := h.2
  refine zr_aload_n (pc' := 7) (i := 0) dX12_topOf_6 rfl rfl rfl ?_
  refine zr_get (pc' := 10) dX12_topOf_7 rfl ps_102 kd_102 fl_X12_127 kc_12 (gv_102_65 _) ?_
  refine zr_iload_n (pc' := 11) (i := 1) dX12_topOf_10 rfl rfl rfl ?_
  refine zr_iald (pc' := 12) dX12_topOf_11 rfl ps_138 kd_138 (by decide) h.1.1 h.1.2 ?_
  have h := h.2
  refine zr_iadd (pc' := 13) dX12_topOf_12 rfl ?_
  exact zr_ireturn dX12_topOf_13 rfl rfl trivial (Nat.le_refl _) (Nat.le_refl _) (And.intro rfl h)
set_option maxRecDepth 20000 in
theorem vcX12_flows {E : zE} {M : zM} {Q : Int → zM → Prop} (l1 : Int) (I12 : Nat → Int → Int → Int → zM → Prop) (I84 : Nat → Int → Int → Int → zM → Prop) (I152 : Nat → Int → Int → Int → Int → Int → Int → Int → zM → Prop) (I276 : Nat → Int → Int → Int → Int → Int → Int → Int → zM → Prop) (I461 : Nat → Int → Int → Int → Int → Int → zM → Prop)
    (h : ∃ n', I12 n' l1 ((M 102 51) * (M 102 52)) 0 M)
    (h12 : ∀ (n : Nat) (l1 l2 l3 : Int) (M : zM), I12 n l1 l2 l3 M → ((zR l3 ∧ zR l2) ∧ ((l2 ≤ l3 → ∃ n', n' < n ∧ I84 n' l1 l2 1 M) ∧ (l3 < l2 → (0 ≤ l3 ∧ l3 < 832) ∧ (∀ M1, M1 = zup M 137 l3.toNat 0 → (0 ≤ l3 ∧ l3 < 64) ∧ (0 ≤ l3 ∧ l3 < 64) ∧ ((zR (M1 130 l3.toNat)) ∧ (((M1 130 l3.toNat) = 0 → (0 ≤ l3 ∧ l3 < 64) ∧ ((zR (M1 131 l3.toNat)) ∧ (((M1 131 l3.toNat) = 0 → (0 ≤ l3 ∧ l3 < 832) ∧ (∀ M2, M2 = zup M1 138 l3.toNat (((M1 128 l3.toNat) + 0) - 0) → (0 ≤ l3 ∧ l3 < 64) ∧ (∀ M3, M3 = zup M2 139 l3.toNat 13 → ∃ n', n' < n ∧ I12 n' l1 l2 (l3 + 1) M3))) ∧ (¬ (M1 131 l3.toNat) = 0 → (0 ≤ l3 ∧ l3 < 832) ∧ (∀ M4, M4 = zup M1 138 l3.toNat (((M1 128 l3.toNat) + 0) - 8) → (0 ≤ l3 ∧ l3 < 64) ∧ (∀ M5, M5 = zup M4 139 l3.toNat 13 → ∃ n', n' < n ∧ I12 n' l1 l2 (l3 + 1) M5)))))) ∧ (¬ (M1 130 l3.toNat) = 0 → (0 ≤ l3 ∧ l3 < 64) ∧ ((zR (M1 131 l3.toNat)) ∧ (((M1 131 l3.toNat) = 0 → (0 ≤ l3 ∧ l3 < 832) ∧ (∀ M6, M6 = zup M1 138 l3.toNat (((M1 128 l3.toNat) + 8) - 0) → (0 ≤ l3 ∧ l3 < 64) ∧ (∀ M7, M7 = zup M6 139 l3.toNat 13 → ∃ n', n' < n ∧ I12 n' l1 l2 (l3 + 1) M7))) ∧ (¬ (M1 131 l3.toNat) = 0 → (0 ≤ l3 ∧ l3 < 832) ∧ (∀ M8, M8 = zup M1 138 l3.toNat (((M1 128 l3.toNat) + 8) - 8) → (0 ≤ l3 ∧ l3 < 64) ∧ (∀ M9, M9 = zup M8 139 l3.toNat 13 → ∃ n', n' < n ∧ I12 n' l1 l2 (l3 + 1) M9)))))))))))))
    (h84 : ∀ (n : Nat) (l1 l2 l3 : Int) (M : zM), I84 n l1 l2 l3 M → ((zR l3) ∧ ((12 < l3 → Q 0 M) ∧ (l3 ≤ 12 → (0 ≤ l1 ∧ l1 < 3) ∧ ((zR l3 ∧ zR (M 135 l1.toNat)) ∧ (((M 135 l1.toNat) < l3 → ∃ n', n' < n ∧ I152 n' l1 l2 l3 (64 * (l3 - 1)) (64 * l3) 0 0 M) ∧ (l3 ≤ (M 135 l1.toNat) → (0 ≤ l1 ∧ l1 < 3) ∧ (0 ≤ (64 * (l3 - 1)) + (M 133 l1.toNat) ∧ (64 * (l3 - 1)) + (M 133 l1.toNat) < 832) ∧ (0 ≤ l1 ∧ l1 < 3) ∧ (0 ≤ (64 * (l3 - 1)) + (M 133 l1.toNat) ∧ (64 * (l3 - 1)) + (M 133 l1.toNat) < 832) ∧ (∀ M10, M10 = zup M 137 (((64 * (l3 - 1)) + (M 133 l1.toNat)).toNat) ((M 137 (((64 * (l3 - 1)) + (M 133 l1.toNat)).toNat)) + (M 134 l1.toNat)) → ∃ n', n' < n ∧ I152 n' l1 l2 l3 (64 * (l3 - 1)) (64 * l3) 1 0 M10))))))))
    (h152 : ∀ (n : Nat) (l1 l2 l3 l4 l5 l6 l7 : Int) (M : zM), I152 n l1 l2 l3 l4 l5 l6 l7 M → ((zR l7 ∧ zR l2) ∧ ((l2 ≤ l7 → ∃ n', n' < n ∧ I276 n' l1 l2 l3 l4 l5 l6 0 M) ∧ (l7 < l2 → (0 ≤ l7 ∧ l7 < 64) ∧ (∀ M11, M11 = zup M 140 l7.toNat 0 → ((zR l6) ∧ ((l6 = 0 → (0 ≤ l7 ∧ l7 < 64) ∧ (∀ M12, M12 = zup M11 141 l7.toNat 0 → (0 ≤ l4 + l7 ∧ l4 + l7 < 832) ∧ (0 ≤ l5 + l7 ∧ l5 + l7 < 832) ∧ (∀ M13, M13 = zup M12 137 ((l5 + l7).toNat) (M12 137 ((l4 + l7).toNat)) → (0 ≤ l4 + l7 ∧ l4 + l7 < 832) ∧ (0 ≤ l5 + l7 ∧ l5 + l7 < 832) ∧ (∀ M14, M14 = zup M13 138 ((l5 + l7).toNat) (M13 138 ((l4 + l7).toNat)) → (0 ≤ l4 + l7 ∧ l4 + l7 < 832) ∧ ((zR (M14 137 ((l4 + l7).toNat))) ∧ (((M14 137 ((l4 + l7).toNat)) ≤ 0 → ∃ n', n' < n ∧ I152 n' l1 l2 l3 l4 l5 l6 (l7 + 1) M14) ∧ (0 < (M14 137 ((l4 + l7).toNat)) → (0 ≤ l7 ∧ l7 < 64) ∧ ((zR (M14 139 l7.toNat)) ∧ ((¬ (M14 139 l7.toNat) = 13 → ∃ n', n' < n ∧ I152 n' l1 l2 l3 l4 l5 l6 (l7 + 1) M14) ∧ ((M14 139 l7.toNat) = 13 → (0 ≤ l7 ∧ l7 < 64) ∧ (∀ M15, M15 = zup M14 139 l7.toNat l3 → ∃ n', n' < n ∧ I152 n' l1 l2 l3 l4 l5 l6 (l7 + 1) M15))))))))))) ∧ (¬ l6 = 0 → (0 ≤ l1 ∧ l1 < 3) ∧ ((zR l7 ∧ zR (M11 133 l1.toNat)) ∧ ((¬ l7 = (M11 133 l1.toNat) → (0 ≤ l7 ∧ l7 < 64) ∧ (∀ M16, M16 = zup M11 141 l7.toNat 0 → (0 ≤ l4 + l7 ∧ l4 + l7 < 832) ∧ (0 ≤ l5 + l7 ∧ l5 + l7 < 832) ∧ (∀ M17, M17 = zup M16 137 ((l5 + l7).toNat) (M16 137 ((l4 + l7).toNat)) → (0 ≤ l4 + l7 ∧ l4 + l7 < 832) ∧ (0 ≤ l5 + l7 ∧ l5 + l7 < 832) ∧ (∀ M18, M18 = zup M17 138 ((l5 + l7).toNat) (M17 138 ((l4 + l7).toNat)) → (0 ≤ l4 + l7 ∧ l4 + l7 < 832) ∧ ((zR (M18 137 ((l4 + l7).toNat))) ∧ (((M18 137 ((l4 + l7).toNat)) ≤ 0 → ∃ n', n' < n ∧ I152 n' l1 l2 l3 l4 l5 l6 (l7 + 1) M18) ∧ (0 < (M18 137 ((l4 + l7).toNat)) → (0 ≤ l7 ∧ l7 < 64) ∧ ((zR (M18 139 l7.toNat)) ∧ ((¬ (M18 139 l7.toNat) = 13 → ∃ n', n' < n ∧ I152 n' l1 l2 l3 l4 l5 l6 (l7 + 1) M18) ∧ ((M18 139 l7.toNat) = 13 → (0 ≤ l7 ∧ l7 < 64) ∧ (∀ M19, M19 = zup M18 139 l7.toNat l3 → ∃ n', n' < n ∧ I152 n' l1 l2 l3 l4 l5 l6 (l7 + 1) M19))))))))))) ∧ (l7 = (M11 133 l1.toNat) → (0 ≤ l7 ∧ l7 < 64) ∧ (∀ M20, M20 = zup M11 141 l7.toNat 1 → (0 ≤ l4 + l7 ∧ l4 + l7 < 832) ∧ (0 ≤ l5 + l7 ∧ l5 + l7 < 832) ∧ (∀ M21, M21 = zup M20 137 ((l5 + l7).toNat) (M20 137 ((l4 + l7).toNat)) → (0 ≤ l4 + l7 ∧ l4 + l7 < 832) ∧ (0 ≤ l5 + l7 ∧ l5 + l7 < 832) ∧ (∀ M22, M22 = zup M21 138 ((l5 + l7).toNat) (M21 138 ((l4 + l7).toNat)) → (0 ≤ l4 + l7 ∧ l4 + l7 < 832) ∧ ((zR (M22 137 ((l4 + l7).toNat))) ∧ (((M22 137 ((l4 + l7).toNat)) ≤ 0 → ∃ n', n' < n ∧ I152 n' l1 l2 l3 l4 l5 l6 (l7 + 1) M22) ∧ (0 < (M22 137 ((l4 + l7).toNat)) → (0 ≤ l7 ∧ l7 < 64) ∧ ((zR (M22 139 l7.toNat)) ∧ ((¬ (M22 139 l7.toNat) = 13 → ∃ n', n' < n ∧ I152 n' l1 l2 l3 l4 l5 l6 (l7 + 1) M22) ∧ ((M22 139 l7.toNat) = 13 → (0 ≤ l7 ∧ l7 < 64) ∧ (∀ M23, M23 = zup M22 139 l7.toNat l3 → ∃ n', n' < n ∧ I152 n' l1 l2 l3 l4 l5 l6 (l7 + 1) M23)))))))))))))))))))))
    (h276 : ∀ (n : Nat) (l1 l2 l3 l4 l5 l6 l7 : Int) (M : zM), I276 n l1 l2 l3 l4 l5 l6 l7 M → ((zR l7 ∧ zR l2) ∧ ((l2 ≤ l7 → ((zR l6) ∧ ((l6 = 0 → ∃ n', n' < n ∧ I461 n' l1 l2 l3 l5 0 M) ∧ (¬ l6 = 0 → (0 ≤ l1 ∧ l1 < 3) ∧ (0 ≤ l4 + (M 133 l1.toNat) ∧ l4 + (M 133 l1.toNat) < 832) ∧ (0 ≤ l1 ∧ l1 < 3) ∧ (0 ≤ l4 + (M 133 l1.toNat) ∧ l4 + (M 133 l1.toNat) < 832) ∧ (∀ M24, M24 = zup M 137 ((l4 + (M 133 l1.toNat)).toNat) ((M 137 ((l4 + (M 133 l1.toNat)).toNat)) - (M 134 l1.toNat)) → ∃ n', n' < n ∧ I461 n' l1 l2 l3 l5 0 M24))))) ∧ (l7 < l2 → (0 ≤ l4 + l7 ∧ l4 + l7 < 832) ∧ ((zR (M 137 ((l4 + l7).toNat))) ∧ ((¬ (M 137 ((l4 + l7).toNat)) = 0 → (zP E mX12_lowestBy [.inr (.inr 102), .inl l7, .inl l4] M (fun r25 M26 => (zP E mX12_topOf [.inr (.inr 102), .inl (l4 + l7)] M26 (fun r27 M28 => (zP E mX12_topOf [.inr (.inr 102), .inl (l4 + r25)] M28 (fun r29 M30 => ((zR (r27 - r29)) ∧ ((2 ≤ (r27 - r29) → (zR (r27 - r29)) ∧ (0 ≤ l4 + l7 ∧ l4 + l7 < 832) ∧ ((zR (Int.tdiv (r27 - r29) 2) ∧ zR (M30 137 ((l4 + l7).toNat))) ∧ (((M30 137 ((l4 + l7).toNat)) ≤ (Int.tdiv (r27 - r29) 2) → (0 ≤ l4 + l7 ∧ l4 + l7 < 832) ∧ (0 ≤ l7 ∧ l7 < 64) ∧ (∀ M31, M31 = zup M30 140 l7.toNat (M30 137 ((l4 + l7).toNat)) → (0 ≤ r25 ∧ r25 < 64) ∧ (0 ≤ r25 ∧ r25 < 64) ∧ (∀ M32, M32 = zup M31 141 r25.toNat ((M31 141 r25.toNat) + 1) → (0 ≤ l5 + l7 ∧ l5 + l7 < 832) ∧ (0 ≤ l5 + l7 ∧ l5 + l7 < 832) ∧ (∀ M33, M33 = zup M32 137 ((l5 + l7).toNat) ((M32 137 ((l5 + l7).toNat)) - (M30 137 ((l4 + l7).toNat))) → (0 ≤ l5 + r25 ∧ l5 + r25 < 832) ∧ (0 ≤ l5 + r25 ∧ l5 + r25 < 832) ∧ (∀ M34, M34 = zup M33 137 ((l5 + r25).toNat) ((M33 137 ((l5 + r25).toNat)) + (M30 137 ((l4 + l7).toNat))) → ∃ n', n' < n ∧ I276 n' l1 l2 l3 l4 l5 l6 (l7 + 1) M34))))) ∧ ((Int.tdiv (r27 - r29) 2) < (M30 137 ((l4 + l7).toNat)) → (zR (r27 - r29)) ∧ (0 ≤ l7 ∧ l7 < 64) ∧ (∀ M35, M35 = zup M30 140 l7.toNat (Int.tdiv (r27 - r29) 2) → (0 ≤ r25 ∧ r25 < 64) ∧ (0 ≤ r25 ∧ r25 < 64) ∧ (∀ M36, M36 = zup M35 141 r25.toNat ((M35 141 r25.toNat) + 1) → (0 ≤ l5 + l7 ∧ l5 + l7 < 832) ∧ (0 ≤ l5 + l7 ∧ l5 + l7 < 832) ∧ (∀ M37, M37 = zup M36 137 ((l5 + l7).toNat) ((M36 137 ((l5 + l7).toNat)) - (Int.tdiv (r27 - r29) 2)) → (0 ≤ l5 + r25 ∧ l5 + r25 < 832) ∧ (0 ≤ l5 + r25 ∧ l5 + r25 < 832) ∧ (∀ M38, M38 = zup M37 137 ((l5 + r25).toNat) ((M37 137 ((l5 + r25).toNat)) + (Int.tdiv (r27 - r29) 2)) → ∃ n', n' < n ∧ I276 n' l1 l2 l3 l4 l5 l6 (l7 + 1) M38)))))))) ∧ ((r27 - r29) < 2 → ∃ n', n' < n ∧ I276 n' l1 l2 l3 l4 l5 l6 (l7 + 1) M30)))))))))) ∧ ((M 137 ((l4 + l7).toNat)) = 0 → ∃ n', n' < n ∧ I276 n' l1 l2 l3 l4 l5 l6 (l7 + 1) M)))))))
    (h461 : ∀ (n : Nat) (l1 l2 l3 l5 l7 : Int) (M : zM), I461 n l1 l2 l3 l5 l7 M → ((zR l7 ∧ zR l2) ∧ ((l2 ≤ l7 → ∃ n', n' < n ∧ I84 n' l1 l2 (l3 + 1) M) ∧ (l7 < l2 → (0 ≤ l5 + l7 ∧ l5 + l7 < 832) ∧ ((zR (M 137 ((l5 + l7).toNat))) ∧ (((M 137 ((l5 + l7).toNat)) ≤ 0 → (0 ≤ l5 + l7 ∧ l5 + l7 < 832) ∧ ((zR (M 137 ((l5 + l7).toNat))) ∧ (((M 137 ((l5 + l7).toNat)) = 0 → ∃ n', n' < n ∧ I461 n' l1 l2 l3 l5 (l7 + 1) M) ∧ (¬ (M 137 ((l5 + l7).toNat)) = 0 → (0 ≤ l7 ∧ l7 < 64) ∧ ((zR (M 140 l7.toNat)) ∧ ((0 < (M 140 l7.toNat) → ∃ n', n' < n ∧ I461 n' l1 l2 l3 l5 (l7 + 1) M) ∧ ((M 140 l7.toNat) ≤ 0 → (0 ≤ l7 ∧ l7 < 64) ∧ ((zR (M 141 l7.toNat)) ∧ (((M 141 l7.toNat) ≤ 0 → (0 ≤ l5 + l7 ∧ l5 + l7 < 832) ∧ (0 ≤ l5 + l7 ∧ l5 + l7 < 832) ∧ (∀ M39, M39 = zup M 137 ((l5 + l7).toNat) ((M 137 ((l5 + l7).toNat)) - 1) → (0 ≤ l5 + l7 ∧ l5 + l7 < 832) ∧ (0 ≤ l5 + l7 ∧ l5 + l7 < 832) ∧ (∀ M40, M40 = zup M39 138 ((l5 + l7).toNat) ((M39 138 ((l5 + l7).toNat)) + 1) → ∃ n', n' < n ∧ I461 n' l1 l2 l3 l5 (l7 + 1) M40))) ∧ (0 < (M 141 l7.toNat) → ∃ n', n' < n ∧ I461 n' l1 l2 l3 l5 (l7 + 1) M)))))))))) ∧ (0 < (M 137 ((l5 + l7).toNat)) → (0 ≤ l7 ∧ l7 < 64) ∧ ((zR (M 139 l7.toNat)) ∧ ((¬ (M 139 l7.toNat) = 13 → (0 ≤ l5 + l7 ∧ l5 + l7 < 832) ∧ ((zR (M 137 ((l5 + l7).toNat))) ∧ (((M 137 ((l5 + l7).toNat)) = 0 → ∃ n', n' < n ∧ I461 n' l1 l2 l3 l5 (l7 + 1) M) ∧ (¬ (M 137 ((l5 + l7).toNat)) = 0 → (0 ≤ l7 ∧ l7 < 64) ∧ ((zR (M 140 l7.toNat)) ∧ ((0 < (M 140 l7.toNat) → ∃ n', n' < n ∧ I461 n' l1 l2 l3 l5 (l7 + 1) M) ∧ ((M 140 l7.toNat) ≤ 0 → (0 ≤ l7 ∧ l7 < 64) ∧ ((zR (M 141 l7.toNat)) ∧ (((M 141 l7.toNat) ≤ 0 → (0 ≤ l5 + l7 ∧ l5 + l7 < 832) ∧ (0 ≤ l5 + l7 ∧ l5 + l7 < 832) ∧ (∀ M41, M41 = zup M 137 ((l5 + l7).toNat) ((M 137 ((l5 + l7).toNat)) - 1) → (0 ≤ l5 + l7 ∧ l5 + l7 < 832) ∧ (0 ≤ l5 + l7 ∧ l5 + l7 < 832) ∧ (∀ M42, M42 = zup M41 138 ((l5 + l7).toNat) ((M41 138 ((l5 + l7).toNat)) + 1) → ∃ n', n' < n ∧ I461 n' l1 l2 l3 l5 (l7 + 1) M42))) ∧ (0 < (M 141 l7.toNat) → ∃ n', n' < n ∧ I461 n' l1 l2 l3 l5 (l7 + 1) M)))))))))) ∧ ((M 139 l7.toNat) = 13 → (0 ≤ l7 ∧ l7 < 64) ∧ (∀ M43, M43 = zup M 139 l7.toNat l3 → (0 ≤ l5 + l7 ∧ l5 + l7 < 832) ∧ ((zR (M43 137 ((l5 + l7).toNat))) ∧ (((M43 137 ((l5 + l7).toNat)) = 0 → ∃ n', n' < n ∧ I461 n' l1 l2 l3 l5 (l7 + 1) M43) ∧ (¬ (M43 137 ((l5 + l7).toNat)) = 0 → (0 ≤ l7 ∧ l7 < 64) ∧ ((zR (M43 140 l7.toNat)) ∧ ((0 < (M43 140 l7.toNat) → ∃ n', n' < n ∧ I461 n' l1 l2 l3 l5 (l7 + 1) M43) ∧ ((M43 140 l7.toNat) ≤ 0 → (0 ≤ l7 ∧ l7 < 64) ∧ ((zR (M43 141 l7.toNat)) ∧ (((M43 141 l7.toNat) ≤ 0 → (0 ≤ l5 + l7 ∧ l5 + l7 < 832) ∧ (0 ≤ l5 + l7 ∧ l5 + l7 < 832) ∧ (∀ M44, M44 = zup M43 137 ((l5 + l7).toNat) ((M43 137 ((l5 + l7).toNat)) - 1) → (0 ≤ l5 + l7 ∧ l5 + l7 < 832) ∧ (0 ≤ l5 + l7 ∧ l5 + l7 < 832) ∧ (∀ M45, M45 = zup M44 138 ((l5 + l7).toNat) ((M44 138 ((l5 + l7).toNat)) + 1) → ∃ n', n' < n ∧ I461 n' l1 l2 l3 l5 (l7 + 1) M45))) ∧ (0 < (M43 141 l7.toNat) → ∃ n', n' < n ∧ I461 n' l1 l2 l3 l5 (l7 + 1) M43))))))))))))))))))))
    : zP E mX12_flows [.inr (.inr 102), .inl l1] M Q := by
  have key : ∀ n : Nat, (∀ (l1 l2 l3 : Int) (M : zM), I12 n l1 l2 l3 M → zA E zNN (0, 0) mX12_flows 12 [(0, .inr (.inr 102)), (1, .inl l1), (2, .inl l2), (3, .inl l3)] [] M (zQ Q)) ∧ (∀ (l1 l2 l3 : Int) (M : zM), I84 n l1 l2 l3 M → zA E zNN (0, 0) mX12_flows 84 [(0, .inr (.inr 102)), (1, .inl l1), (2, .inl l2), (3, .inl l3)] [] M (zQ Q)) ∧ (∀ (l1 l2 l3 l4 l5 l6 l7 : Int) (M : zM), I152 n l1 l2 l3 l4 l5 l6 l7 M → zA E zNN (0, 0) mX12_flows 152 [(0, .inr (.inr 102)), (1, .inl l1), (2, .inl l2), (3, .inl l3), (4, .inl l4), (5, .inl l5), (6, .inl l6), (7, .inl l7)] [] M (zQ Q)) ∧ (∀ (l1 l2 l3 l4 l5 l6 l7 : Int) (M : zM), I276 n l1 l2 l3 l4 l5 l6 l7 M → zA E zNN (0, 0) mX12_flows 276 [(0, .inr (.inr 102)), (1, .inl l1), (2, .inl l2), (3, .inl l3), (4, .inl l4), (5, .inl l5), (6, .inl l6), (7, .inl l7)] [] M (zQ Q)) ∧ (∀ (l1 l2 l3 l5 l7 : Int) (M : zM), I461 n l1 l2 l3 l5 l7 M → zA E zNN (0, 0) mX12_flows 461 [(0, .inr (.inr 102)), (1, .inl l1), (2, .inl l2), (3, .inl l3), (5, .inl l5), (7, .inl l7)] [] M (zQ Q)) := by
    intro n
    induction n using Nat.strongRecOn with
    | ind n ih =>
      refine ⟨?_, ?_, ?_, ?_, ?_⟩
      · intro l1 l2 l3 M h
        have h := h12 n l1 l2 l3 M h
        refine zr_iload_n (pc' := 13) (i := 3) dX12_flows_12 rfl rfl rfl ?_
        refine zr_iload_n (pc' := 14) (i := 2) dX12_flows_13 rfl rfl rfl ?_
        refine zr_icmp_ge (tgt := 82) (pc' := 17) dX12_flows_14 rfl rfl h.1.1 h.1.2 (fun hc => ?_) (fun hc => ?_)
        · have h := h.2.1 hc
          refine zr_iconst (pc' := 83) dX12_flows_82 rfl ?_
          refine zr_istore_n (pc' := 84) (i := 3) (al' := [(3, .inl 1), (0, .inr (.inr 102)), (1, .inl l1), (2, .inl l2)]) dX12_flows_83 rfl rfl (by decide) rfl ?_
          obtain ⟨n', hn, h⟩ := h
          exact zn_al ((ih n' hn).2.1 _ _ _ _ h) ⟨rfl, rfl, rfl, rfl, trivial⟩
        · have h := h.2.2 hc
          refine zr_aload_n (pc' := 18) (i := 0) dX12_flows_17 rfl rfl rfl ?_
          refine zr_get (pc' := 21) dX12_flows_18 rfl ps_102 kd_102 fl_X12_124 kc_12 (gv_102_64 _) ?_
          refine zr_iload_n (pc' := 22) (i := 3) dX12_flows_21 rfl rfl rfl ?_
          refine zr_iconst (pc' := 23) dX12_flows_22 rfl ?_
          refine zr_iast (pc' := 24) dX12_flows_23 rfl ps_137 kd_137 (by decide) h.1.1 h.1.2 (fun M1 hM1 => ?_)
          have h := h.2 M1 hM1
          refine zr_aload_n (pc' := 25) (i := 0) dX12_flows_24 rfl rfl rfl ?_
          refine zr_get (pc' := 28) dX12_flows_25 rfl ps_102 kd_102 fl_X12_127 kc_12 (gv_102_65 _) ?_
          refine zr_iload_n (pc' := 29) (i := 3) dX12_flows_28 rfl rfl rfl ?_
          refine zr_aload_n (pc' := 30) (i := 0) dX12_flows_29 rfl rfl rfl ?_
          refine zr_get (pc' := 33) dX12_flows_30 rfl ps_102 kd_102 fl_X12_97 kc_12 (gv_102_53 _) ?_
          refine zr_iload_n (pc' := 34) (i := 3) dX12_flows_33 rfl rfl rfl ?_
          refine zr_iald (pc' := 35) dX12_flows_34 rfl ps_128 kd_128 (by decide) h.1.1 h.1.2 ?_
          have h := h.2
          refine zr_aload_n (pc' := 36) (i := 0) dX12_flows_35 rfl rfl rfl ?_
          refine zr_get (pc' := 39) dX12_flows_36 rfl ps_102 kd_102 fl_X12_103 kc_12 (gv_102_55 _) ?_
          refine zr_iload_n (pc' := 40) (i := 3) dX12_flows_39 rfl rfl rfl ?_
          refine zr_zald (pc' := 41) dX12_flows_40 rfl ps_130 kd_130 (by decide) h.1.1 h.1.2 ?_
          have h := h.2
          refine zr_if_eq (tgt := 49) (pc' := 44) dX12_flows_41 rfl rfl h.1 (fun hc => ?_) (fun hc => ?_)
          · have h := h.2.1 hc
            refine zr_iconst (pc' := 50) dX12_flows_49 rfl ?_
            refine zr_iadd (pc' := 51) dX12_flows_50 rfl ?_
            refine zr_aload_n (pc' := 52) (i := 0) dX12_flows_51 rfl rfl rfl ?_
            refine zr_get (pc' := 55) dX12_flows_52 rfl ps_102 kd_102 fl_X12_106 kc_12 (gv_102_56 _) ?_
            refine zr_iload_n (pc' := 56) (i := 3) dX12_flows_55 rfl rfl rfl ?_
            refine zr_zald (pc' := 57) dX12_flows_56 rfl ps_131 kd_131 (by decide) h.1.1 h.1.2 ?_
            have h := h.2
            refine zr_if_eq (tgt := 65) (pc' := 60) dX12_flows_57 rfl rfl h.1 (fun hc => ?_) (fun hc => ?_)
            · have h := h.2.1 hc
              refine zr_iconst (pc' := 66) dX12_flows_65 rfl ?_
              refine zr_isub (pc' := 67) dX12_flows_66 rfl ?_
              refine zr_iast (pc' := 68) dX12_flows_67 rfl ps_138 kd_138 (by decide) h.1.1 h.1.2 (fun M2 hM1 => ?_)
              have h := h.2 M2 hM1
              refine zr_aload_n (pc' := 69) (i := 0) dX12_flows_68 rfl rfl rfl ?_
              refine zr_get (pc' := 72) dX12_flows_69 rfl ps_102 kd_102 fl_X12_130 kc_12 (gv_102_66 _) ?_
              refine zr_iload_n (pc' := 73) (i := 3) dX12_flows_72 rfl rfl rfl ?_
              refine zr_bipush (pc' := 75) dX12_flows_73 rfl rfl ?_
              refine zr_iast (pc' := 76) dX12_flows_75 rfl ps_139 kd_139 (by decide) h.1.1 h.1.2 (fun M3 hM1 => ?_)
              have h := h.2 M3 hM1
              refine zr_iinc (pc' := 79) (al' := [(3, .inl (l3 + 1)), (0, .inr (.inr 102)), (1, .inl l1), (2, .inl l2)]) dX12_flows_76 rfl rfl (by decide) rfl ?_
              refine zr_goto (pc' := 12) dX12_flows_79 rfl ?_
              obtain ⟨n', hn, h⟩ := h
              exact zn_al ((ih n' hn).1 _ _ _ _ h) ⟨rfl, rfl, rfl, rfl, trivial⟩
            · have h := h.2.2 hc
              refine zr_bipush (pc' := 62) dX12_flows_60 rfl rfl ?_
              refine zr_goto (pc' := 66) dX12_flows_62 rfl ?_
              refine zr_isub (pc' := 67) dX12_flows_66 rfl ?_
              refine zr_iast (pc' := 68) dX12_flows_67 rfl ps_138 kd_138 (by decide) h.1.1 h.1.2 (fun M4 hM1 => ?_)
              have h := h.2 M4 hM1
              refine zr_aload_n (pc' := 69) (i := 0) dX12_flows_68 rfl rfl rfl ?_
              refine zr_get (pc' := 72) dX12_flows_69 rfl ps_102 kd_102 fl_X12_130 kc_12 (gv_102_66 _) ?_
              refine zr_iload_n (pc' := 73) (i := 3) dX12_flows_72 rfl rfl rfl ?_
              refine zr_bipush (pc' := 75) dX12_flows_73 rfl rfl ?_
              refine zr_iast (pc' := 76) dX12_flows_75 rfl ps_139 kd_139 (by decide) h.1.1 h.1.2 (fun M5 hM1 => ?_)
              have h := h.2 M5 hM1
              refine zr_iinc (pc' := 79) (al' := [(3, .inl (l3 + 1)), (0, .inr (.inr 102)), (1, .inl l1), (2, .inl l2)]) dX12_flows_76 rfl rfl (by decide) rfl ?_
              refine zr_goto (pc' := 12) dX12_flows_79 rfl ?_
              obtain ⟨n', hn, h⟩ := h
              exact zn_al ((ih n' hn).1 _ _ _ _ h) ⟨rfl, rfl, rfl, rfl, trivial⟩
          · have h := h.2.2 hc
            refine zr_bipush (pc' := 46) dX12_flows_44 rfl rfl ?_
            refine zr_goto (pc' := 50) dX12_flows_46 rfl ?_
            refine zr_iadd (pc' := 51) dX12_flows_50 rfl ?_
            refine zr_aload_n (pc' := 52) (i := 0) dX12_flows_51 rfl rfl rfl ?_
            refine zr_get (pc' := 55) dX12_flows_52 rfl ps_102 kd_102 fl_X12_106 kc_12 (gv_102_56 _) ?_
            refine zr_iload_n (pc' := 56) (i := 3) dX12_flows_55 rfl rfl rfl ?_
            refine zr_zald (pc' := 57) dX12_flows_56 rfl ps_131 kd_131 (by decide) h.1.1 h.1.2 ?_
            have h := h.2
            refine zr_if_eq (tgt := 65) (pc' := 60) dX12_flows_57 rfl rfl h.1 (fun hc => ?_) (fun hc => ?_)
            · have h := h.2.1 hc
              refine zr_iconst (pc' := 66) dX12_flows_65 rfl ?_
              refine zr_isub (pc' := 67) dX12_flows_66 rfl ?_
              refine zr_iast (pc' := 68) dX12_flows_67 rfl ps_138 kd_138 (by decide) h.1.1 h.1.2 (fun M6 hM1 => ?_)
              have h := h.2 M6 hM1
              refine zr_aload_n (pc' := 69) (i := 0) dX12_flows_68 rfl rfl rfl ?_
              refine zr_get (pc' := 72) dX12_flows_69 rfl ps_102 kd_102 fl_X12_130 kc_12 (gv_102_66 _) ?_
              refine zr_iload_n (pc' := 73) (i := 3) dX12_flows_72 rfl rfl rfl ?_
              refine zr_bipush (pc' := 75) dX12_flows_73 rfl rfl ?_
              refine zr_iast (pc' := 76) dX12_flows_75 rfl ps_139 kd_139 (by decide) h.1.1 h.1.2 (fun M7 hM1 => ?_)
              have h := h.2 M7 hM1
              refine zr_iinc (pc' := 79) (al' := [(3, .inl (l3 + 1)), (0, .inr (.inr 102)), (1, .inl l1), (2, .inl l2)]) dX12_flows_76 rfl rfl (by decide) rfl ?_
              refine zr_goto (pc' := 12) dX12_flows_79 rfl ?_
              obtain ⟨n', hn, h⟩ := h
              exact zn_al ((ih n' hn).1 _ _ _ _ h) ⟨rfl, rfl, rfl, rfl, trivial⟩
            · have h := h.2.2 hc
              refine zr_bipush (pc' := 62) dX12_flows_60 rfl rfl ?_
              refine zr_goto (pc' := 66) dX12_flows_62 rfl ?_
              refine zr_isub (pc' := 67) dX12_flows_66 rfl ?_
              refine zr_iast (pc' := 68) dX12_flows_67 rfl ps_138 kd_138 (by decide) h.1.1 h.1.2 (fun M8 hM1 => ?_)
              have h := h.2 M8 hM1
              refine zr_aload_n (pc' := 69) (i := 0) dX12_flows_68 rfl rfl rfl ?_
              refine zr_get (pc' := 72) dX12_flows_69 rfl ps_102 kd_102 fl_X12_130 kc_12 (gv_102_66 _) ?_
              refine zr_iload_n (pc' := 73) (i := 3) dX12_flows_72 rfl rfl rfl ?_
              refine zr_bipush (pc' := 75) dX12_flows_73 rfl rfl ?_
              refine zr_iast (pc' := 76) dX12_flows_75 rfl ps_139 kd_139 (by decide) h.1.1 h.1.2 (fun M9 hM1 => ?_)
              have h := h.2 M9 hM1
              refine zr_iinc (pc' := 79) (al' := [(3, .inl (l3 + 1)), (0, .inr (.inr 102)), (1, .inl l1), (2, .inl l2)]) dX12_flows_76 rfl rfl (by decide) rfl ?_
              refine zr_goto (pc' := 12) dX12_flows_79 rfl ?_
              obtain ⟨n', hn, h⟩ := h
              exact zn_al ((ih n' hn).1 _ _ _ _ h) ⟨rfl, rfl, rfl, rfl, trivial⟩
      · intro l1 l2 l3 M h
        have h := h84 n l1 l2 l3 M h
        refine zr_iload_n (pc' := 85) (i := 3) dX12_flows_84 rfl rfl rfl ?_
        refine zr_bipush (pc' := 87) dX12_flows_85 rfl rfl ?_
        refine zr_icmp_gt (tgt := 576) (pc' := 90) dX12_flows_87 rfl rfl h.1 (zRd rfl) (fun hc => ?_) (fun hc => ?_)
        · have h := h.2.1 hc
          exact zr_return (x := 0) dX12_flows_576 rfl (Nat.le_refl _) (Nat.le_refl _) (And.intro rfl h)
        · have h := h.2.2 hc
          refine zr_bipush (pc' := 92) dX12_flows_90 rfl rfl ?_
          refine zr_iload_n (pc' := 93) (i := 3) dX12_flows_92 rfl rfl rfl ?_
          refine zr_iconst (pc' := 94) dX12_flows_93 rfl ?_
          refine zr_isub (pc' := 95) dX12_flows_94 rfl ?_
          refine zr_imul (pc' := 96) dX12_flows_95 rfl ?_
          refine zr_istore (pc' := 98) (al' := [(4, .inl (64 * (l3 - 1))), (0, .inr (.inr 102)), (1, .inl l1), (2, .inl l2), (3, .inl l3)]) dX12_flows_96 rfl (by decide) rfl ?_
          refine zr_bipush (pc' := 100) dX12_flows_98 rfl rfl ?_
          refine zr_iload_n (pc' := 101) (i := 3) dX12_flows_100 rfl rfl rfl ?_
          refine zr_imul (pc' := 102) dX12_flows_101 rfl ?_
          refine zr_istore (pc' := 104) (al' := [(5, .inl (64 * l3)), (4, .inl (64 * (l3 - 1))), (0, .inr (.inr 102)), (1, .inl l1), (2, .inl l2), (3, .inl l3)]) dX12_flows_102 rfl (by decide) rfl ?_
          refine zr_iload_n (pc' := 105) (i := 3) dX12_flows_104 rfl rfl rfl ?_
          refine zr_aload_n (pc' := 106) (i := 0) dX12_flows_105 rfl rfl rfl ?_
          refine zr_get (pc' := 109) dX12_flows_106 rfl ps_102 kd_102 fl_X12_118 kc_12 (gv_102_62 _) ?_
          refine zr_iload_n (pc' := 110) (i := 1) dX12_flows_109 rfl rfl rfl ?_
          refine zr_iald (pc' := 111) dX12_flows_110 rfl ps_135 kd_135 (by decide) h.1.1 h.1.2 ?_
          have h := h.2
          refine zr_icmp_gt (tgt := 118) (pc' := 114) dX12_flows_111 rfl rfl h.1.1 h.1.2 (fun hc => ?_) (fun hc => ?_)
          · have h := h.2.1 hc
            refine zr_iconst (pc' := 119) dX12_flows_118 rfl ?_
            refine zr_istore (pc' := 121) (al' := [(6, .inl 0), (5, .inl (64 * l3)), (4, .inl (64 * (l3 - 1))), (0, .inr (.inr 102)), (1, .inl l1), (2, .inl l2), (3, .inl l3)]) dX12_flows_119 rfl (by decide) rfl ?_
            refine zr_iload (pc' := 123) dX12_flows_121 rfl rfl ?_
            refine zr_if_eq (tgt := 149) (pc' := 126) dX12_flows_123 rfl rfl (zRd rfl) (fun _ => ?_) (fun hc => absurd hc (by decide))
            refine zr_iconst (pc' := 150) dX12_flows_149 rfl ?_
            refine zr_istore (pc' := 152) (al' := [(7, .inl 0), (6, .inl 0), (5, .inl (64 * l3)), (4, .inl (64 * (l3 - 1))), (0, .inr (.inr 102)), (1, .inl l1), (2, .inl l2), (3, .inl l3)]) dX12_flows_150 rfl (by decide) rfl ?_
            obtain ⟨n', hn, h⟩ := h
            exact zn_al ((ih n' hn).2.2.1 _ _ _ _ _ _ _ _ h) ⟨rfl, rfl, rfl, rfl, rfl, rfl, rfl, rfl, trivial⟩
          · have h := h.2.2 hc
            refine zr_iconst (pc' := 115) dX12_flows_114 rfl ?_
            refine zr_goto (pc' := 119) dX12_flows_115 rfl ?_
            refine zr_istore (pc' := 121) (al' := [(6, .inl 1), (5, .inl (64 * l3)), (4, .inl (64 * (l3 - 1))), (0, .inr (.inr 102)), (1, .inl l1), (2, .inl l2), (3, .inl l3)]) dX12_flows_119 rfl (by decide) rfl ?_
            refine zr_iload (pc' := 123) dX12_flows_121 rfl rfl ?_
            refine zr_if_eq (tgt := 149) (pc' := 126) dX12_flows_123 rfl rfl (zRd rfl) (fun hc => absurd hc (by decide)) (fun _ => ?_)
            refine zr_aload_n (pc' := 127) (i := 0) dX12_flows_126 rfl rfl rfl ?_
            refine zr_get (pc' := 130) dX12_flows_127 rfl ps_102 kd_102 fl_X12_124 kc_12 (gv_102_64 _) ?_
            refine zr_iload (pc' := 132) dX12_flows_130 rfl rfl ?_
            refine zr_aload_n (pc' := 133) (i := 0) dX12_flows_132 rfl rfl rfl ?_
            refine zr_get (pc' := 136) dX12_flows_133 rfl ps_102 kd_102 fl_X12_112 kc_12 (gv_102_60 _) ?_
            refine zr_iload_n (pc' := 137) (i := 1) dX12_flows_136 rfl rfl rfl ?_
            refine zr_iald (pc' := 138) dX12_flows_137 rfl ps_133 kd_133 (by decide) h.1.1 h.1.2 ?_
            have h := h.2
            refine zr_iadd (pc' := 139) dX12_flows_138 rfl ?_
            refine zr_dup2 (pc' := 140) dX12_flows_139 rfl rfl rfl ?_
            refine zr_iald (pc' := 141) dX12_flows_140 rfl ps_137 kd_137 (by decide) h.1.1 h.1.2 ?_
            have h := h.2
            refine zr_aload_n (pc' := 142) (i := 0) dX12_flows_141 rfl rfl rfl ?_
            refine zr_get (pc' := 145) dX12_flows_142 rfl ps_102 kd_102 fl_X12_115 kc_12 (gv_102_61 _) ?_
            refine zr_iload_n (pc' := 146) (i := 1) dX12_flows_145 rfl rfl rfl ?_
            refine zr_iald (pc' := 147) dX12_flows_146 rfl ps_134 kd_134 (by decide) h.1.1 h.1.2 ?_
            have h := h.2
            refine zr_iadd (pc' := 148) dX12_flows_147 rfl ?_
            refine zr_iast (pc' := 149) dX12_flows_148 rfl ps_137 kd_137 (by decide) h.1.1 h.1.2 (fun M10 hM1 => ?_)
            have h := h.2 M10 hM1
            refine zr_iconst (pc' := 150) dX12_flows_149 rfl ?_
            refine zr_istore (pc' := 152) (al' := [(7, .inl 0), (6, .inl 1), (5, .inl (64 * l3)), (4, .inl (64 * (l3 - 1))), (0, .inr (.inr 102)), (1, .inl l1), (2, .inl l2), (3, .inl l3)]) dX12_flows_150 rfl (by decide) rfl ?_
            obtain ⟨n', hn, h⟩ := h
            exact zn_al ((ih n' hn).2.2.1 _ _ _ _ _ _ _ _ h) ⟨rfl, rfl, rfl, rfl, rfl, rfl, rfl, rfl, trivial⟩
      · intro l1 l2 l3 l4 l5 l6 l7 M h
        have h := h152 n l1 l2 l3 l4 l5 l6 l7 M h
        refine zr_iload (pc' := 154) dX12_flows_152 rfl rfl ?_
        refine zr_iload_n (pc' := 155) (i := 2) dX12_flows_154 rfl rfl rfl ?_
        refine zr_icmp_ge (tgt := 273) (pc' := 158) dX12_flows_155 rfl rfl h.1.1 h.1.2 (fun hc => ?_) (fun hc => ?_)
        · have h := h.2.1 hc
          refine zr_iconst (pc' := 274) dX12_flows_273 rfl ?_
          refine zr_istore (pc' := 276) (al' := [(7, .inl 0), (0, .inr (.inr 102)), (1, .inl l1), (2, .inl l2), (3, .inl l3), (4, .inl l4), (5, .inl l5), (6, .inl l6)]) dX12_flows_274 rfl (by decide) rfl ?_
          obtain ⟨n', hn, h⟩ := h
          exact zn_al ((ih n' hn).2.2.2.1 _ _ _ _ _ _ _ _ h) ⟨rfl, rfl, rfl, rfl, rfl, rfl, rfl, rfl, trivial⟩
        · have h := h.2.2 hc
          refine zr_aload_n (pc' := 159) (i := 0) dX12_flows_158 rfl rfl rfl ?_
          refine zr_get (pc' := 162) dX12_flows_159 rfl ps_102 kd_102 fl_X12_133 kc_12 (gv_102_67 _) ?_
          refine zr_iload (pc' := 164) dX12_flows_162 rfl rfl ?_
          refine zr_iconst (pc' := 165) dX12_flows_164 rfl ?_
          refine zr_iast (pc' := 166) dX12_flows_165 rfl ps_140 kd_140 (by decide) h.1.1 h.1.2 (fun M11 hM1 => ?_)
          have h := h.2 M11 hM1
          refine zr_aload_n (pc' := 167) (i := 0) dX12_flows_166 rfl rfl rfl ?_
          refine zr_get (pc' := 170) dX12_flows_167 rfl ps_102 kd_102 fl_X12_136 kc_12 (gv_102_68 _) ?_
          refine zr_iload (pc' := 172) dX12_flows_170 rfl rfl ?_
          refine zr_iload (pc' := 174) dX12_flows_172 rfl rfl ?_
          refine zr_if_eq (tgt := 192) (pc' := 177) dX12_flows_174 rfl rfl h.1 (fun hc => ?_) (fun hc => ?_)
          · have h := h.2.1 hc
            refine zr_iconst (pc' := 193) dX12_flows_192 rfl ?_
            refine zr_iast (pc' := 194) dX12_flows_193 rfl ps_141 kd_141 (by decide) h.1.1 h.1.2 (fun M12 hM1 => ?_)
            have h := h.2 M12 hM1
            refine zr_aload_n (pc' := 195) (i := 0) dX12_flows_194 rfl rfl rfl ?_
            refine zr_get (pc' := 198) dX12_flows_195 rfl ps_102 kd_102 fl_X12_124 kc_12 (gv_102_64 _) ?_
            refine zr_iload (pc' := 200) dX12_flows_198 rfl rfl ?_
            refine zr_iload (pc' := 202) dX12_flows_200 rfl rfl ?_
            refine zr_iadd (pc' := 203) dX12_flows_202 rfl ?_
            refine zr_aload_n (pc' := 204) (i := 0) dX12_flows_203 rfl rfl rfl ?_
            refine zr_get (pc' := 207) dX12_flows_204 rfl ps_102 kd_102 fl_X12_124 kc_12 (gv_102_64 _) ?_
            refine zr_iload (pc' := 209) dX12_flows_207 rfl rfl ?_
            refine zr_iload (pc' := 211) dX12_flows_209 rfl rfl ?_
            refine zr_iadd (pc' := 212) dX12_flows_211 rfl ?_
            refine zr_iald (pc' := 213) dX12_flows_212 rfl ps_137 kd_137 (by decide) h.1.1 h.1.2 ?_
            have h := h.2
            refine zr_iast (pc' := 214) dX12_flows_213 rfl ps_137 kd_137 (by decide) h.1.1 h.1.2 (fun M13 hM1 => ?_)
            have h := h.2 M13 hM1
            refine zr_aload_n (pc' := 215) (i := 0) dX12_flows_214 rfl rfl rfl ?_
            refine zr_get (pc' := 218) dX12_flows_215 rfl ps_102 kd_102 fl_X12_127 kc_12 (gv_102_65 _) ?_
            refine zr_iload (pc' := 220) dX12_flows_218 rfl rfl ?_
            refine zr_iload (pc' := 222) dX12_flows_220 rfl rfl ?_
            refine zr_iadd (pc' := 223) dX12_flows_222 rfl ?_
            refine zr_aload_n (pc' := 224) (i := 0) dX12_flows_223 rfl rfl rfl ?_
            refine zr_get (pc' := 227) dX12_flows_224 rfl ps_102 kd_102 fl_X12_127 kc_12 (gv_102_65 _) ?_
            refine zr_iload (pc' := 229) dX12_flows_227 rfl rfl ?_
            refine zr_iload (pc' := 231) dX12_flows_229 rfl rfl ?_
            refine zr_iadd (pc' := 232) dX12_flows_231 rfl ?_
            refine zr_iald (pc' := 233) dX12_flows_232 rfl ps_138 kd_138 (by decide) h.1.1 h.1.2 ?_
            have h := h.2
            refine zr_iast (pc' := 234) dX12_flows_233 rfl ps_138 kd_138 (by decide) h.1.1 h.1.2 (fun M14 hM1 => ?_)
            have h := h.2 M14 hM1
            refine zr_aload_n (pc' := 235) (i := 0) dX12_flows_234 rfl rfl rfl ?_
            refine zr_get (pc' := 238) dX12_flows_235 rfl ps_102 kd_102 fl_X12_124 kc_12 (gv_102_64 _) ?_
            refine zr_iload (pc' := 240) dX12_flows_238 rfl rfl ?_
            refine zr_iload (pc' := 242) dX12_flows_240 rfl rfl ?_
            refine zr_iadd (pc' := 243) dX12_flows_242 rfl ?_
            refine zr_iald (pc' := 244) dX12_flows_243 rfl ps_137 kd_137 (by decide) h.1.1 h.1.2 ?_
            have h := h.2
            refine zr_if_le (tgt := 267) (pc' := 247) dX12_flows_244 rfl rfl h.1 (fun hc => ?_) (fun hc => ?_)
            · have h := h.2.1 hc
              refine zr_iinc (pc' := 270) (al' := [(7, .inl (l7 + 1)), (0, .inr (.inr 102)), (1, .inl l1), (2, .inl l2), (3, .inl l3), (4, .inl l4), (5, .inl l5), (6, .inl l6)]) dX12_flows_267 rfl rfl (by decide) rfl ?_
              refine zr_goto (pc' := 152) dX12_flows_270 rfl ?_
              obtain ⟨n', hn, h⟩ := h
              exact zn_al ((ih n' hn).2.2.1 _ _ _ _ _ _ _ _ h) ⟨rfl, rfl, rfl, rfl, rfl, rfl, rfl, rfl, trivial⟩
            · have h := h.2.2 hc
              refine zr_aload_n (pc' := 248) (i := 0) dX12_flows_247 rfl rfl rfl ?_
              refine zr_get (pc' := 251) dX12_flows_248 rfl ps_102 kd_102 fl_X12_130 kc_12 (gv_102_66 _) ?_
              refine zr_iload (pc' := 253) dX12_flows_251 rfl rfl ?_
              refine zr_iald (pc' := 254) dX12_flows_253 rfl ps_139 kd_139 (by decide) h.1.1 h.1.2 ?_
              have h := h.2
              refine zr_bipush (pc' := 256) dX12_flows_254 rfl rfl ?_
              refine zr_icmp_ne (tgt := 267) (pc' := 259) dX12_flows_256 rfl rfl h.1 (zRd rfl) (fun hc => ?_) (fun hc => ?_)
              · have h := h.2.1 hc
                refine zr_iinc (pc' := 270) (al' := [(7, .inl (l7 + 1)), (0, .inr (.inr 102)), (1, .inl l1), (2, .inl l2), (3, .inl l3), (4, .inl l4), (5, .inl l5), (6, .inl l6)]) dX12_flows_267 rfl rfl (by decide) rfl ?_
                refine zr_goto (pc' := 152) dX12_flows_270 rfl ?_
                obtain ⟨n', hn, h⟩ := h
                exact zn_al ((ih n' hn).2.2.1 _ _ _ _ _ _ _ _ h) ⟨rfl, rfl, rfl, rfl, rfl, rfl, rfl, rfl, trivial⟩
              · have h := h.2.2 hc
                refine zr_aload_n (pc' := 260) (i := 0) dX12_flows_259 rfl rfl rfl ?_
                refine zr_get (pc' := 263) dX12_flows_260 rfl ps_102 kd_102 fl_X12_130 kc_12 (gv_102_66 _) ?_
                refine zr_iload (pc' := 265) dX12_flows_263 rfl rfl ?_
                refine zr_iload_n (pc' := 266) (i := 3) dX12_flows_265 rfl rfl rfl ?_
                refine zr_iast (pc' := 267) dX12_flows_266 rfl ps_139 kd_139 (by decide) h.1.1 h.1.2 (fun M15 hM1 => ?_)
                have h := h.2 M15 hM1
                refine zr_iinc (pc' := 270) (al' := [(7, .inl (l7 + 1)), (0, .inr (.inr 102)), (1, .inl l1), (2, .inl l2), (3, .inl l3), (4, .inl l4), (5, .inl l5), (6, .inl l6)]) dX12_flows_267 rfl rfl (by decide) rfl ?_
                refine zr_goto (pc' := 152) dX12_flows_270 rfl ?_
                obtain ⟨n', hn, h⟩ := h
                exact zn_al ((ih n' hn).2.2.1 _ _ _ _ _ _ _ _ h) ⟨rfl, rfl, rfl, rfl, rfl, rfl, rfl, rfl, trivial⟩
          · have h := h.2.2 hc
            refine zr_iload (pc' := 179) dX12_flows_177 rfl rfl ?_
            refine zr_aload_n (pc' := 180) (i := 0) dX12_flows_179 rfl rfl rfl ?_
            refine zr_get (pc' := 183) dX12_flows_180 rfl ps_102 kd_102 fl_X12_112 kc_12 (gv_102_60 _) ?_
            refine zr_iload_n (pc' := 184) (i := 1) dX12_flows_183 rfl rfl rfl ?_
            refine zr_iald (pc' := 185) dX12_flows_184 rfl ps_133 kd_133 (by decide) h.1.1 h.1.2 ?_
            have h := h.2
            refine zr_icmp_ne (tgt := 192) (pc' := 188) dX12_flows_185 rfl rfl h.1.1 h.1.2 (fun hc => ?_) (fun hc => ?_)
            · have h := h.2.1 hc
              refine zr_iconst (pc' := 193) dX12_flows_192 rfl ?_
              refine zr_iast (pc' := 194) dX12_flows_193 rfl ps_141 kd_141 (by decide) h.1.1 h.1.2 (fun M16 hM1 => ?_)
              have h := h.2 M16 hM1
              refine zr_aload_n (pc' := 195) (i := 0) dX12_flows_194 rfl rfl rfl ?_
              refine zr_get (pc' := 198) dX12_flows_195 rfl ps_102 kd_102 fl_X12_124 kc_12 (gv_102_64 _) ?_
              refine zr_iload (pc' := 200) dX12_flows_198 rfl rfl ?_
              refine zr_iload (pc' := 202) dX12_flows_200 rfl rfl ?_
              refine zr_iadd (pc' := 203) dX12_flows_202 rfl ?_
              refine zr_aload_n (pc' := 204) (i := 0) dX12_flows_203 rfl rfl rfl ?_
              refine zr_get (pc' := 207) dX12_flows_204 rfl ps_102 kd_102 fl_X12_124 kc_12 (gv_102_64 _) ?_
              refine zr_iload (pc' := 209) dX12_flows_207 rfl rfl ?_
              refine zr_iload (pc' := 211) dX12_flows_209 rfl rfl ?_
              refine zr_iadd (pc' := 212) dX12_flows_211 rfl ?_
              refine zr_iald (pc' := 213) dX12_flows_212 rfl ps_137 kd_137 (by decide) h.1.1 h.1.2 ?_
              have h := h.2
              refine zr_iast (pc' := 214) dX12_flows_213 rfl ps_137 kd_137 (by decide) h.1.1 h.1.2 (fun M17 hM1 => ?_)
              have h := h.2 M17 hM1
              refine zr_aload_n (pc' := 215) (i := 0) dX12_flows_214 rfl rfl rfl ?_
              refine zr_get (pc' := 218) dX12_flows_215 rfl ps_102 kd_102 fl_X12_127 kc_12 (gv_102_65 _) ?_
              refine zr_iload (pc' := 220) dX12_flows_218 rfl rfl ?_
              refine zr_iload (pc' := 222) dX12_flows_220 rfl rfl ?_
              refine zr_iadd (pc' := 223) dX12_flows_222 rfl ?_
              refine zr_aload_n (pc' := 224) (i := 0) dX12_flows_223 rfl rfl rfl ?_
              refine zr_get (pc' := 227) dX12_flows_224 rfl ps_102 kd_102 fl_X12_127 kc_12 (gv_102_65 _) ?_
              refine zr_iload (pc' := 229) dX12_flows_227 rfl rfl ?_
              refine zr_iload (pc' := 231) dX12_flows_229 rfl rfl ?_
              refine zr_iadd (pc' := 232) dX12_flows_231 rfl ?_
              refine zr_iald (pc' := 233) dX12_flows_232 rfl ps_138 kd_138 (by decide) h.1.1 h.1.2 ?_
              have h := h.2
              refine zr_iast (pc' := 234) dX12_flows_233 rfl ps_138 kd_138 (by decide) h.1.1 h.1.2 (fun M18 hM1 => ?_)
              have h := h.2 M18 hM1
              refine zr_aload_n (pc' := 235) (i := 0) dX12_flows_234 rfl rfl rfl ?_
              refine zr_get (pc' := 238) dX12_flows_235 rfl ps_102 kd_102 fl_X12_124 kc_12 (gv_102_64 _) ?_
              refine zr_iload (pc' := 240) dX12_flows_238 rfl rfl ?_
              refine zr_iload (pc' := 242) dX12_flows_240 rfl rfl ?_
              refine zr_iadd (pc' := 243) dX12_flows_242 rfl ?_
              refine zr_iald (pc' := 244) dX12_flows_243 rfl ps_137 kd_137 (by decide) h.1.1 h.1.2 ?_
              have h := h.2
              refine zr_if_le (tgt := 267) (pc' := 247) dX12_flows_244 rfl rfl h.1 (fun hc => ?_) (fun hc => ?_)
              · have h := h.2.1 hc
                refine zr_iinc (pc' := 270) (al' := [(7, .inl (l7 + 1)), (0, .inr (.inr 102)), (1, .inl l1), (2, .inl l2), (3, .inl l3), (4, .inl l4), (5, .inl l5), (6, .inl l6)]) dX12_flows_267 rfl rfl (by decide) rfl ?_
                refine zr_goto (pc' := 152) dX12_flows_270 rfl ?_
                obtain ⟨n', hn, h⟩ := h
                exact zn_al ((ih n' hn).2.2.1 _ _ _ _ _ _ _ _ h) ⟨rfl, rfl, rfl, rfl, rfl, rfl, rfl, rfl, trivial⟩
              · have h := h.2.2 hc
                refine zr_aload_n (pc' := 248) (i := 0) dX12_flows_247 rfl rfl rfl ?_
                refine zr_get (pc' := 251) dX12_flows_248 rfl ps_102 kd_102 fl_X12_130 kc_12 (gv_102_66 _) ?_
                refine zr_iload (pc' := 253) dX12_flows_251 rfl rfl ?_
                refine zr_iald (pc' := 254) dX12_flows_253 rfl ps_139 kd_139 (by decide) h.1.1 h.1.2 ?_
                have h := h.2
                refine zr_bipush (pc' := 256) dX12_flows_254 rfl rfl ?_
                refine zr_icmp_ne (tgt := 267) (pc' := 259) dX12_flows_256 rfl rfl h.1 (zRd rfl) (fun hc => ?_) (fun hc => ?_)
                · have h := h.2.1 hc
                  refine zr_iinc (pc' := 270) (al' := [(7, .inl (l7 + 1)), (0, .inr (.inr 102)), (1, .inl l1), (2, .inl l2), (3, .inl l3), (4, .inl l4), (5, .inl l5), (6, .inl l6)]) dX12_flows_267 rfl rfl (by decide) rfl ?_
                  refine zr_goto (pc' := 152) dX12_flows_270 rfl ?_
                  obtain ⟨n', hn, h⟩ := h
                  exact zn_al ((ih n' hn).2.2.1 _ _ _ _ _ _ _ _ h) ⟨rfl, rfl, rfl, rfl, rfl, rfl, rfl, rfl, trivial⟩
                · have h := h.2.2 hc
                  refine zr_aload_n (pc' := 260) (i := 0) dX12_flows_259 rfl rfl rfl ?_
                  refine zr_get (pc' := 263) dX12_flows_260 rfl ps_102 kd_102 fl_X12_130 kc_12 (gv_102_66 _) ?_
                  refine zr_iload (pc' := 265) dX12_flows_263 rfl rfl ?_
                  refine zr_iload_n (pc' := 266) (i := 3) dX12_flows_265 rfl rfl rfl ?_
                  refine zr_iast (pc' := 267) dX12_flows_266 rfl ps_139 kd_139 (by decide) h.1.1 h.1.2 (fun M19 hM1 => ?_)
                  have h := h.2 M19 hM1
                  refine zr_iinc (pc' := 270) (al' := [(7, .inl (l7 + 1)), (0, .inr (.inr 102)), (1, .inl l1), (2, .inl l2), (3, .inl l3), (4, .inl l4), (5, .inl l5), (6, .inl l6)]) dX12_flows_267 rfl rfl (by decide) rfl ?_
                  refine zr_goto (pc' := 152) dX12_flows_270 rfl ?_
                  obtain ⟨n', hn, h⟩ := h
                  exact zn_al ((ih n' hn).2.2.1 _ _ _ _ _ _ _ _ h) ⟨rfl, rfl, rfl, rfl, rfl, rfl, rfl, rfl, trivial⟩
            · have h := h.2.2 hc
              refine zr_iconst (pc' := 189) dX12_flows_188 rfl ?_
              refine zr_goto (pc' := 193) dX12_flows_189 rfl ?_
              refine zr_iast (pc' := 194) dX12_flows_193 rfl ps_141 kd_141 (by decide) h.1.1 h.1.2 (fun M20 hM1 => ?_)
              have h := h.2 M20 hM1
              refine zr_aload_n (pc' := 195) (i := 0) dX12_flows_194 rfl rfl rfl ?_
              refine zr_get (pc' := 198) dX12_flows_195 rfl ps_102 kd_102 fl_X12_124 kc_12 (gv_102_64 _) ?_
              refine zr_iload (pc' := 200) dX12_flows_198 rfl rfl ?_
              refine zr_iload (pc' := 202) dX12_flows_200 rfl rfl ?_
              refine zr_iadd (pc' := 203) dX12_flows_202 rfl ?_
              refine zr_aload_n (pc' := 204) (i := 0) dX12_flows_203 rfl rfl rfl ?_
              refine zr_get (pc' := 207) dX12_flows_204 rfl ps_102 kd_102 fl_X12_124 kc_12 (gv_102_64 _) ?_
              refine zr_iload (pc' := 209) dX12_flows_207 rfl rfl ?_
              refine zr_iload (pc' := 211) dX12_flows_209 rfl rfl ?_
              refine zr_iadd (pc' := 212) dX12_flows_211 rfl ?_
              refine zr_iald (pc' := 213) dX12_flows_212 rfl ps_137 kd_137 (by decide) h.1.1 h.1.2 ?_
              have h := h.2
              refine zr_iast (pc' := 214) dX12_flows_213 rfl ps_137 kd_137 (by decide) h.1.1 h.1.2 (fun M21 hM1 => ?_)
              have h := h.2 M21 hM1
              refine zr_aload_n (pc' := 215) (i := 0) dX12_flows_214 rfl rfl rfl ?_
              refine zr_get (pc' := 218) dX12_flows_215 rfl ps_102 kd_102 fl_X12_127 kc_12 (gv_102_65 _) ?_
              refine zr_iload (pc' := 220) dX12_flows_218 rfl rfl ?_
              refine zr_iload (pc' := 222) dX12_flows_220 rfl rfl ?_
              refine zr_iadd (pc' := 223) dX12_flows_222 rfl ?_
              refine zr_aload_n (pc' := 224) (i := 0) dX12_flows_223 rfl rfl rfl ?_
              refine zr_get (pc' := 227) dX12_flows_224 rfl ps_102 kd_102 fl_X12_127 kc_12 (gv_102_65 _) ?_
              refine zr_iload (pc' := 229) dX12_flows_227 rfl rfl ?_
              refine zr_iload (pc' := 231) dX12_flows_229 rfl rfl ?_
              refine zr_iadd (pc' := 232) dX12_flows_231 rfl ?_
              refine zr_iald (pc' := 233) dX12_flows_232 rfl ps_138 kd_138 (by decide) h.1.1 h.1.2 ?_
              have h := h.2
              refine zr_iast (pc' := 234) dX12_flows_233 rfl ps_138 kd_138 (by decide) h.1.1 h.1.2 (fun M22 hM1 => ?_)
              have h := h.2 M22 hM1
              refine zr_aload_n (pc' := 235) (i := 0) dX12_flows_234 rfl rfl rfl ?_
              refine zr_get (pc' := 238) dX12_flows_235 rfl ps_102 kd_102 fl_X12_124 kc_12 (gv_102_64 _) ?_
              refine zr_iload (pc' := 240) dX12_flows_238 rfl rfl ?_
              refine zr_iload (pc' := 242) dX12_flows_240 rfl rfl ?_
              refine zr_iadd (pc' := 243) dX12_flows_242 rfl ?_
              refine zr_iald (pc' := 244) dX12_flows_243 rfl ps_137 kd_137 (by decide) h.1.1 h.1.2 ?_
              have h := h.2
              refine zr_if_le (tgt := 267) (pc' := 247) dX12_flows_244 rfl rfl h.1 (fun hc => ?_) (fun hc => ?_)
              · have h := h.2.1 hc
                refine zr_iinc (pc' := 270) (al' := [(7, .inl (l7 + 1)), (0, .inr (.inr 102)), (1, .inl l1), (2, .inl l2), (3, .inl l3), (4, .inl l4), (5, .inl l5), (6, .inl l6)]) dX12_flows_267 rfl rfl (by decide) rfl ?_
                refine zr_goto (pc' := 152) dX12_flows_270 rfl ?_
                obtain ⟨n', hn, h⟩ := h
                exact zn_al ((ih n' hn).2.2.1 _ _ _ _ _ _ _ _ h) ⟨rfl, rfl, rfl, rfl, rfl, rfl, rfl, rfl, trivial⟩
              · have h := h.2.2 hc
                refine zr_aload_n (pc' := 248) (i := 0) dX12_flows_247 rfl rfl rfl ?_
                refine zr_get (pc' := 251) dX12_flows_248 rfl ps_102 kd_102 fl_X12_130 kc_12 (gv_102_66 _) ?_
                refine zr_iload (pc' := 253) dX12_flows_251 rfl rfl ?_
                refine zr_iald (pc' := 254) dX12_flows_253 rfl ps_139 kd_139 (by decide) h.1.1 h.1.2 ?_
                have h := h.2
                refine zr_bipush (pc' := 256) dX12_flows_254 rfl rfl ?_
                refine zr_icmp_ne (tgt := 267) (pc' := 259) dX12_flows_256 rfl rfl h.1 (zRd rfl) (fun hc => ?_) (fun hc => ?_)
                · have h := h.2.1 hc
                  refine zr_iinc (pc' := 270) (al' := [(7, .inl (l7 + 1)), (0, .inr (.inr 102)), (1, .inl l1), (2, .inl l2), (3, .inl l3), (4, .inl l4), (5, .inl l5), (6, .inl l6)]) dX12_flows_267 rfl rfl (by decide) rfl ?_
                  refine zr_goto (pc' := 152) dX12_flows_270 rfl ?_
                  obtain ⟨n', hn, h⟩ := h
                  exact zn_al ((ih n' hn).2.2.1 _ _ _ _ _ _ _ _ h) ⟨rfl, rfl, rfl, rfl, rfl, rfl, rfl, rfl, trivial⟩
                · have h := h.2.2 hc
                  refine zr_aload_n (pc' := 260) (i := 0) dX12_flows_259 rfl rfl rfl ?_
                  refine zr_get (pc' := 263) dX12_flows_260 rfl ps_102 kd_102 fl_X12_130 kc_12 (gv_102_66 _) ?_
                  refine zr_iload (pc' := 265) dX12_flows_263 rfl rfl ?_
                  refine zr_iload_n (pc' := 266) (i := 3) dX12_flows_265 rfl rfl rfl ?_
                  refine zr_iast (pc' := 267) dX12_flows_266 rfl ps_139 kd_139 (by decide) h.1.1 h.1.2 (fun M23 hM1 => ?_)
                  have h := h.2 M23 hM1
                  refine zr_iinc (pc' := 270) (al' := [(7, .inl (l7 + 1)), (0, .inr (.inr 102)), (1, .inl l1), (2, .inl l2), (3, .inl l3), (4, .inl l4), (5, .inl l5), (6, .inl l6)]) dX12_flows_267 rfl rfl (by decide) rfl ?_
                  refine zr_goto (pc' := 152) dX12_flows_270 rfl ?_
                  obtain ⟨n', hn, h⟩ := h
                  exact zn_al ((ih n' hn).2.2.1 _ _ _ _ _ _ _ _ h) ⟨rfl, rfl, rfl, rfl, rfl, rfl, rfl, rfl, trivial⟩
      · intro l1 l2 l3 l4 l5 l6 l7 M h
        have h := h276 n l1 l2 l3 l4 l5 l6 l7 M h
        refine zr_iload (pc' := 278) dX12_flows_276 rfl rfl ?_
        refine zr_iload_n (pc' := 279) (i := 2) dX12_flows_278 rfl rfl rfl ?_
        refine zr_icmp_ge (tgt := 430) (pc' := 282) dX12_flows_279 rfl rfl h.1.1 h.1.2 (fun hc => ?_) (fun hc => ?_)
        · have h := h.2.1 hc
          refine zr_iload (pc' := 432) dX12_flows_430 rfl rfl ?_
          refine zr_if_eq (tgt := 458) (pc' := 435) dX12_flows_432 rfl rfl h.1 (fun hc => ?_) (fun hc => ?_)
          · have h := h.2.1 hc
            refine zr_iconst (pc' := 459) dX12_flows_458 rfl ?_
            refine zr_istore (pc' := 461) (al' := [(7, .inl 0), (0, .inr (.inr 102)), (1, .inl l1), (2, .inl l2), (3, .inl l3), (4, .inl l4), (5, .inl l5), (6, .inl l6)]) dX12_flows_459 rfl (by decide) rfl ?_
            obtain ⟨n', hn, h⟩ := h
            exact zn_al ((ih n' hn).2.2.2.2 _ _ _ _ _ _ h) ⟨rfl, rfl, rfl, rfl, rfl, rfl, trivial⟩
          · have h := h.2.2 hc
            refine zr_aload_n (pc' := 436) (i := 0) dX12_flows_435 rfl rfl rfl ?_
            refine zr_get (pc' := 439) dX12_flows_436 rfl ps_102 kd_102 fl_X12_124 kc_12 (gv_102_64 _) ?_
            refine zr_iload (pc' := 441) dX12_flows_439 rfl rfl ?_
            refine zr_aload_n (pc' := 442) (i := 0) dX12_flows_441 rfl rfl rfl ?_
            refine zr_get (pc' := 445) dX12_flows_442 rfl ps_102 kd_102 fl_X12_112 kc_12 (gv_102_60 _) ?_
            refine zr_iload_n (pc' := 446) (i := 1) dX12_flows_445 rfl rfl rfl ?_
            refine zr_iald (pc' := 447) dX12_flows_446 rfl ps_133 kd_133 (by decide) h.1.1 h.1.2 ?_
            have h := h.2
            refine zr_iadd (pc' := 448) dX12_flows_447 rfl ?_
            refine zr_dup2 (pc' := 449) dX12_flows_448 rfl rfl rfl ?_
            refine zr_iald (pc' := 450) dX12_flows_449 rfl ps_137 kd_137 (by decide) h.1.1 h.1.2 ?_
            have h := h.2
            refine zr_aload_n (pc' := 451) (i := 0) dX12_flows_450 rfl rfl rfl ?_
            refine zr_get (pc' := 454) dX12_flows_451 rfl ps_102 kd_102 fl_X12_115 kc_12 (gv_102_61 _) ?_
            refine zr_iload_n (pc' := 455) (i := 1) dX12_flows_454 rfl rfl rfl ?_
            refine zr_iald (pc' := 456) dX12_flows_455 rfl ps_134 kd_134 (by decide) h.1.1 h.1.2 ?_
            have h := h.2
            refine zr_isub (pc' := 457) dX12_flows_456 rfl ?_
            refine zr_iast (pc' := 458) dX12_flows_457 rfl ps_137 kd_137 (by decide) h.1.1 h.1.2 (fun M24 hM1 => ?_)
            have h := h.2 M24 hM1
            refine zr_iconst (pc' := 459) dX12_flows_458 rfl ?_
            refine zr_istore (pc' := 461) (al' := [(7, .inl 0), (0, .inr (.inr 102)), (1, .inl l1), (2, .inl l2), (3, .inl l3), (4, .inl l4), (5, .inl l5), (6, .inl l6)]) dX12_flows_459 rfl (by decide) rfl ?_
            obtain ⟨n', hn, h⟩ := h
            exact zn_al ((ih n' hn).2.2.2.2 _ _ _ _ _ _ h) ⟨rfl, rfl, rfl, rfl, rfl, rfl, trivial⟩
        · have h := h.2.2 hc
          refine zr_aload_n (pc' := 283) (i := 0) dX12_flows_282 rfl rfl rfl ?_
          refine zr_get (pc' := 286) dX12_flows_283 rfl ps_102 kd_102 fl_X12_124 kc_12 (gv_102_64 _) ?_
          refine zr_iload (pc' := 288) dX12_flows_286 rfl rfl ?_
          refine zr_iload (pc' := 290) dX12_flows_288 rfl rfl ?_
          refine zr_iadd (pc' := 291) dX12_flows_290 rfl ?_
          refine zr_iald (pc' := 292) dX12_flows_291 rfl ps_137 kd_137 (by decide) h.1.1 h.1.2 ?_
          have h := h.2
          refine zr_if_ne (tgt := 298) (pc' := 295) dX12_flows_292 rfl rfl h.1 (fun hc => ?_) (fun hc => ?_)
          · have h := h.2.1 hc
            refine zr_aload_n (pc' := 299) (i := 0) dX12_flows_298 rfl rfl rfl ?_
            refine zr_iload (pc' := 301) dX12_flows_299 rfl rfl ?_
            refine zr_iload (pc' := 303) dX12_flows_301 rfl rfl ?_
            refine zn_callV (pc' := 306) (args := [.inl l7, .inl l4]) (st := []) (st' := fun r25 => [.inl r25]) dX12_flows_303 rfl cv_X12_443 ⟨rfl, rfl, by decide, by decide⟩ rfl ps_102 kd_102 rfl rfl (Nat.le_of_ble_eq_true rfl) (fun _ => rfl) h ?_
            intro r25 M26 h
            refine zr_istore (pc' := 308) (al' := [(8, .inl r25), (0, .inr (.inr 102)), (1, .inl l1), (2, .inl l2), (3, .inl l3), (4, .inl l4), (5, .inl l5), (6, .inl l6), (7, .inl l7)]) dX12_flows_306 rfl (by decide) rfl ?_
            refine zr_aload_n (pc' := 309) (i := 0) dX12_flows_308 rfl rfl rfl ?_
            refine zr_iload (pc' := 311) dX12_flows_309 rfl rfl ?_
            refine zr_iload (pc' := 313) dX12_flows_311 rfl rfl ?_
            refine zr_iadd (pc' := 314) dX12_flows_313 rfl ?_
            refine zn_callV (pc' := 317) (args := [.inl (l4 + l7)]) (st := []) (st' := fun r27 => [.inl r27]) dX12_flows_314 rfl cv_X12_440 ⟨rfl, rfl, by decide, by decide⟩ rfl ps_102 kd_102 rfl rfl (Nat.le_of_ble_eq_true rfl) (fun _ => rfl) h ?_
            intro r27 M28 h
            refine zr_aload_n (pc' := 318) (i := 0) dX12_flows_317 rfl rfl rfl ?_
            refine zr_iload (pc' := 320) dX12_flows_318 rfl rfl ?_
            refine zr_iload (pc' := 322) dX12_flows_320 rfl rfl ?_
            refine zr_iadd (pc' := 323) dX12_flows_322 rfl ?_
            refine zn_callV (pc' := 326) (args := [.inl (l4 + r25)]) (st := [.inl r27]) (st' := fun r29 => [.inl r29, .inl r27]) dX12_flows_323 rfl cv_X12_440 ⟨rfl, rfl, by decide, by decide⟩ rfl ps_102 kd_102 rfl rfl (Nat.le_of_ble_eq_true rfl) (fun _ => rfl) h ?_
            intro r29 M30 h
            refine zr_isub (pc' := 327) dX12_flows_326 rfl ?_
            refine zr_istore (pc' := 329) (al' := [(9, .inl (r27 - r29)), (8, .inl r25), (0, .inr (.inr 102)), (1, .inl l1), (2, .inl l2), (3, .inl l3), (4, .inl l4), (5, .inl l5), (6, .inl l6), (7, .inl l7)]) dX12_flows_327 rfl (by decide) rfl ?_
            refine zr_iload (pc' := 331) dX12_flows_329 rfl rfl ?_
            refine zr_iconst (pc' := 332) dX12_flows_331 rfl ?_
            refine zr_icmp_ge (tgt := 338) (pc' := 335) dX12_flows_332 rfl rfl h.1 (zRd rfl) (fun hc => ?_) (fun hc => ?_)
            · have h := h.2.1 hc
              refine zr_iload (pc' := 340) dX12_flows_338 rfl rfl ?_
              refine zr_iconst (pc' := 341) dX12_flows_340 rfl ?_
              refine zr_idiv (pc' := 342) dX12_flows_341 rfl h.1 (zRd rfl) (by decide) ?_
              have h := h.2
              refine zr_aload_n (pc' := 343) (i := 0) dX12_flows_342 rfl rfl rfl ?_
              refine zr_get (pc' := 346) dX12_flows_343 rfl ps_102 kd_102 fl_X12_124 kc_12 (gv_102_64 _) ?_
              refine zr_iload (pc' := 348) dX12_flows_346 rfl rfl ?_
              refine zr_iload (pc' := 350) dX12_flows_348 rfl rfl ?_
              refine zr_iadd (pc' := 351) dX12_flows_350 rfl ?_
              refine zr_iald (pc' := 352) dX12_flows_351 rfl ps_137 kd_137 (by decide) h.1.1 h.1.2 ?_
              have h := h.2
              refine zr_icmp_ge (tgt := 362) (pc' := 355) dX12_flows_352 rfl rfl h.1.1 h.1.2 (fun hc => ?_) (fun hc => ?_)
              · have h := h.2.1 hc
                refine zr_aload_n (pc' := 363) (i := 0) dX12_flows_362 rfl rfl rfl ?_
                refine zr_get (pc' := 366) dX12_flows_363 rfl ps_102 kd_102 fl_X12_124 kc_12 (gv_102_64 _) ?_
                refine zr_iload (pc' := 368) dX12_flows_366 rfl rfl ?_
                refine zr_iload (pc' := 370) dX12_flows_368 rfl rfl ?_
                refine zr_iadd (pc' := 371) dX12_flows_370 rfl ?_
                refine zr_iald (pc' := 372) dX12_flows_371 rfl ps_137 kd_137 (by decide) h.1.1 h.1.2 ?_
                have h := h.2
                refine zr_istore (pc' := 374) (al' := [(10, .inl (M30 137 ((l4 + l7).toNat))), (9, .inl (r27 - r29)), (8, .inl r25), (0, .inr (.inr 102)), (1, .inl l1), (2, .inl l2), (3, .inl l3), (4, .inl l4), (5, .inl l5), (6, .inl l6), (7, .inl l7)]) dX12_flows_372 rfl (by decide) rfl ?_
                refine zr_aload_n (pc' := 375) (i := 0) dX12_flows_374 rfl rfl rfl ?_
                refine zr_get (pc' := 378) dX12_flows_375 rfl ps_102 kd_102 fl_X12_133 kc_12 (gv_102_67 _) ?_
                refine zr_iload (pc' := 380) dX12_flows_378 rfl rfl ?_
                refine zr_iload (pc' := 382) dX12_flows_380 rfl rfl ?_
                refine zr_iast (pc' := 383) dX12_flows_382 rfl ps_140 kd_140 (by decide) h.1.1 h.1.2 (fun M31 hM1 => ?_)
                have h := h.2 M31 hM1
                refine zr_aload_n (pc' := 384) (i := 0) dX12_flows_383 rfl rfl rfl ?_
                refine zr_get (pc' := 387) dX12_flows_384 rfl ps_102 kd_102 fl_X12_136 kc_12 (gv_102_68 _) ?_
                refine zr_iload (pc' := 389) dX12_flows_387 rfl rfl ?_
                refine zr_dup2 (pc' := 390) dX12_flows_389 rfl rfl rfl ?_
                refine zr_iald (pc' := 391) dX12_flows_390 rfl ps_141 kd_141 (by decide) h.1.1 h.1.2 ?_
                have h := h.2
                refine zr_iconst (pc' := 392) dX12_flows_391 rfl ?_
                refine zr_iadd (pc' := 393) dX12_flows_392 rfl ?_
                refine zr_iast (pc' := 394) dX12_flows_393 rfl ps_141 kd_141 (by decide) h.1.1 h.1.2 (fun M32 hM1 => ?_)
                have h := h.2 M32 hM1
                refine zr_aload_n (pc' := 395) (i := 0) dX12_flows_394 rfl rfl rfl ?_
                refine zr_get (pc' := 398) dX12_flows_395 rfl ps_102 kd_102 fl_X12_124 kc_12 (gv_102_64 _) ?_
                refine zr_iload (pc' := 400) dX12_flows_398 rfl rfl ?_
                refine zr_iload (pc' := 402) dX12_flows_400 rfl rfl ?_
                refine zr_iadd (pc' := 403) dX12_flows_402 rfl ?_
                refine zr_dup2 (pc' := 404) dX12_flows_403 rfl rfl rfl ?_
                refine zr_iald (pc' := 405) dX12_flows_404 rfl ps_137 kd_137 (by decide) h.1.1 h.1.2 ?_
                have h := h.2
                refine zr_iload (pc' := 407) dX12_flows_405 rfl rfl ?_
                refine zr_isub (pc' := 408) dX12_flows_407 rfl ?_
                refine zr_iast (pc' := 409) dX12_flows_408 rfl ps_137 kd_137 (by decide) h.1.1 h.1.2 (fun M33 hM1 => ?_)
                have h := h.2 M33 hM1
                refine zr_aload_n (pc' := 410) (i := 0) dX12_flows_409 rfl rfl rfl ?_
                refine zr_get (pc' := 413) dX12_flows_410 rfl ps_102 kd_102 fl_X12_124 kc_12 (gv_102_64 _) ?_
                refine zr_iload (pc' := 415) dX12_flows_413 rfl rfl ?_
                refine zr_iload (pc' := 417) dX12_flows_415 rfl rfl ?_
                refine zr_iadd (pc' := 418) dX12_flows_417 rfl ?_
                refine zr_dup2 (pc' := 419) dX12_flows_418 rfl rfl rfl ?_
                refine zr_iald (pc' := 420) dX12_flows_419 rfl ps_137 kd_137 (by decide) h.1.1 h.1.2 ?_
                have h := h.2
                refine zr_iload (pc' := 422) dX12_flows_420 rfl rfl ?_
                refine zr_iadd (pc' := 423) dX12_flows_422 rfl ?_
                refine zr_iast (pc' := 424) dX12_flows_423 rfl ps_137 kd_137 (by decide) h.1.1 h.1.2 (fun M34 hM1 => ?_)
                have h := h.2 M34 hM1
                refine zr_iinc (pc' := 427) (al' := [(7, .inl (l7 + 1)), (10, .inl (M30 137 ((l4 + l7).toNat))), (9, .inl (r27 - r29)), (8, .inl r25), (0, .inr (.inr 102)), (1, .inl l1), (2, .inl l2), (3, .inl l3), (4, .inl l4), (5, .inl l5), (6, .inl l6)]) dX12_flows_424 rfl rfl (by decide) rfl ?_
                refine zr_goto (pc' := 276) dX12_flows_427 rfl ?_
                obtain ⟨n', hn, h⟩ := h
                exact zn_al ((ih n' hn).2.2.2.1 _ _ _ _ _ _ _ _ h) ⟨rfl, rfl, rfl, rfl, rfl, rfl, rfl, rfl, trivial⟩
              · have h := h.2.2 hc
                refine zr_iload (pc' := 357) dX12_flows_355 rfl rfl ?_
                refine zr_iconst (pc' := 358) dX12_flows_357 rfl ?_
                refine zr_idiv (pc' := 359) dX12_flows_358 rfl h.1 (zRd rfl) (by decide) ?_
                have h := h.2
                refine zr_goto (pc' := 372) dX12_flows_359 rfl ?_
                refine zr_istore (pc' := 374) (al' := [(10, .inl (Int.tdiv (r27 - r29) 2)), (9, .inl (r27 - r29)), (8, .inl r25), (0, .inr (.inr 102)), (1, .inl l1), (2, .inl l2), (3, .inl l3), (4, .inl l4), (5, .inl l5), (6, .inl l6), (7, .inl l7)]) dX12_flows_372 rfl (by decide) rfl ?_
                refine zr_aload_n (pc' := 375) (i := 0) dX12_flows_374 rfl rfl rfl ?_
                refine zr_get (pc' := 378) dX12_flows_375 rfl ps_102 kd_102 fl_X12_133 kc_12 (gv_102_67 _) ?_
                refine zr_iload (pc' := 380) dX12_flows_378 rfl rfl ?_
                refine zr_iload (pc' := 382) dX12_flows_380 rfl rfl ?_
                refine zr_iast (pc' := 383) dX12_flows_382 rfl ps_140 kd_140 (by decide) h.1.1 h.1.2 (fun M35 hM1 => ?_)
                have h := h.2 M35 hM1
                refine zr_aload_n (pc' := 384) (i := 0) dX12_flows_383 rfl rfl rfl ?_
                refine zr_get (pc' := 387) dX12_flows_384 rfl ps_102 kd_102 fl_X12_136 kc_12 (gv_102_68 _) ?_
                refine zr_iload (pc' := 389) dX12_flows_387 rfl rfl ?_
                refine zr_dup2 (pc' := 390) dX12_flows_389 rfl rfl rfl ?_
                refine zr_iald (pc' := 391) dX12_flows_390 rfl ps_141 kd_141 (by decide) h.1.1 h.1.2 ?_
                have h := h.2
                refine zr_iconst (pc' := 392) dX12_flows_391 rfl ?_
                refine zr_iadd (pc' := 393) dX12_flows_392 rfl ?_
                refine zr_iast (pc' := 394) dX12_flows_393 rfl ps_141 kd_141 (by decide) h.1.1 h.1.2 (fun M36 hM1 => ?_)
                have h := h.2 M36 hM1
                refine zr_aload_n (pc' := 395) (i := 0) dX12_flows_394 rfl rfl rfl ?_
                refine zr_get (pc' := 398) dX12_flows_395 rfl ps_102 kd_102 fl_X12_124 kc_12 (gv_102_64 _) ?_
                refine zr_iload (pc' := 400) dX12_flows_398 rfl rfl ?_
                refine zr_iload (pc' := 402) dX12_flows_400 rfl rfl ?_
                refine zr_iadd (pc' := 403) dX12_flows_402 rfl ?_
                refine zr_dup2 (pc' := 404) dX12_flows_403 rfl rfl rfl ?_
                refine zr_iald (pc' := 405) dX12_flows_404 rfl ps_137 kd_137 (by decide) h.1.1 h.1.2 ?_
                have h := h.2
                refine zr_iload (pc' := 407) dX12_flows_405 rfl rfl ?_
                refine zr_isub (pc' := 408) dX12_flows_407 rfl ?_
                refine zr_iast (pc' := 409) dX12_flows_408 rfl ps_137 kd_137 (by decide) h.1.1 h.1.2 (fun M37 hM1 => ?_)
                have h := h.2 M37 hM1
                refine zr_aload_n (pc' := 410) (i := 0) dX12_flows_409 rfl rfl rfl ?_
                refine zr_get (pc' := 413) dX12_flows_410 rfl ps_102 kd_102 fl_X12_124 kc_12 (gv_102_64 _) ?_
                refine zr_iload (pc' := 415) dX12_flows_413 rfl rfl ?_
                refine zr_iload (pc' := 417) dX12_flows_415 rfl rfl ?_
                refine zr_iadd (pc' := 418) dX12_flows_417 rfl ?_
                refine zr_dup2 (pc' := 419) dX12_flows_418 rfl rfl rfl ?_
                refine zr_iald (pc' := 420) dX12_flows_419 rfl ps_137 kd_137 (by decide) h.1.1 h.1.2 ?_
                have h := h.2
                refine zr_iload (pc' := 422) dX12_flows_420 rfl rfl ?_
                refine zr_iadd (pc' := 423) dX12_flows_422 rfl ?_
                refine zr_iast (pc' := 424) dX12_flows_423 rfl ps_137 kd_137 (by decide) h.1.1 h.1.2 (fun M38 hM1 => ?_)
                have h := h.2 M38 hM1
                refine zr_iinc (pc' := 427) (al' := [(7, .inl (l7 + 1)), (10, .inl (Int.tdiv (r27 - r29) 2)), (9, .inl (r27 - r29)), (8, .inl r25), (0, .inr (.inr 102)), (1, .inl l1), (2, .inl l2), (3, .inl l3), (4, .inl l4), (5, .inl l5), (6, .inl l6)]) dX12_flows_424 rfl rfl (by decide) rfl ?_
                refine zr_goto (pc' := 276) dX12_flows_427 rfl ?_
                obtain ⟨n', hn, h⟩ := h
                exact zn_al ((ih n' hn).2.2.2.1 _ _ _ _ _ _ _ _ h) ⟨rfl, rfl, rfl, rfl, rfl, rfl, rfl, rfl, trivial⟩
            · have h := h.2.2 hc
              refine zr_goto (pc' := 424) dX12_flows_335 rfl ?_
              refine zr_iinc (pc' := 427) (al' := [(7, .inl (l7 + 1)), (9, .inl (r27 - r29)), (8, .inl r25), (0, .inr (.inr 102)), (1, .inl l1), (2, .inl l2), (3, .inl l3), (4, .inl l4), (5, .inl l5), (6, .inl l6)]) dX12_flows_424 rfl rfl (by decide) rfl ?_
              refine zr_goto (pc' := 276) dX12_flows_427 rfl ?_
              obtain ⟨n', hn, h⟩ := h
              exact zn_al ((ih n' hn).2.2.2.1 _ _ _ _ _ _ _ _ h) ⟨rfl, rfl, rfl, rfl, rfl, rfl, rfl, rfl, trivial⟩
          · have h := h.2.2 hc
            refine zr_goto (pc' := 424) dX12_flows_295 rfl ?_
            refine zr_iinc (pc' := 427) (al' := [(7, .inl (l7 + 1)), (0, .inr (.inr 102)), (1, .inl l1), (2, .inl l2), (3, .inl l3), (4, .inl l4), (5, .inl l5), (6, .inl l6)]) dX12_flows_424 rfl rfl (by decide) rfl ?_
            refine zr_goto (pc' := 276) dX12_flows_427 rfl ?_
            obtain ⟨n', hn, h⟩ := h
            exact zn_al ((ih n' hn).2.2.2.1 _ _ _ _ _ _ _ _ h) ⟨rfl, rfl, rfl, rfl, rfl, rfl, rfl, rfl, trivial⟩
      · intro l1 l2 l3 l5 l7 M h
        have h := h461 n l1 l2 l3 l5 l7 M h
        refine zr_iload (pc' := 463) dX12_flows_461 rfl rfl ?_
        refine zr_iload_n (pc' := 464) (i := 2) dX12_flows_463 rfl rfl rfl ?_
        refine zr_icmp_ge (tgt := 570) (pc' := 467) dX12_flows_464 rfl rfl h.1.1 h.1.2 (fun hc => ?_) (fun hc => ?_)
        · have h := h.2.1 hc
          refine zr_iinc (pc' := 573) (al' := [(3, .inl (l3 + 1)), (0, .inr (.inr 102)), (1, .inl l1), (2, .inl l2), (5, .inl l5), (7, .inl l7)]) dX12_flows_570 rfl rfl (by decide) rfl ?_
          refine zr_goto (pc' := 84) dX12_flows_573 rfl ?_
          obtain ⟨n', hn, h⟩ := h
          exact zn_al ((ih n' hn).2.1 _ _ _ _ h) ⟨rfl, rfl, rfl, rfl, trivial⟩
        · have h := h.2.2 hc
          refine zr_aload_n (pc' := 468) (i := 0) dX12_flows_467 rfl rfl rfl ?_
          refine zr_get (pc' := 471) dX12_flows_468 rfl ps_102 kd_102 fl_X12_124 kc_12 (gv_102_64 _) ?_
          refine zr_iload (pc' := 473) dX12_flows_471 rfl rfl ?_
          refine zr_iload (pc' := 475) dX12_flows_473 rfl rfl ?_
          refine zr_iadd (pc' := 476) dX12_flows_475 rfl ?_
          refine zr_iald (pc' := 477) dX12_flows_476 rfl ps_137 kd_137 (by decide) h.1.1 h.1.2 ?_
          have h := h.2
          refine zr_if_le (tgt := 500) (pc' := 480) dX12_flows_477 rfl rfl h.1 (fun hc => ?_) (fun hc => ?_)
          · have h := h.2.1 hc
            refine zr_aload_n (pc' := 501) (i := 0) dX12_flows_500 rfl rfl rfl ?_
            refine zr_get (pc' := 504) dX12_flows_501 rfl ps_102 kd_102 fl_X12_124 kc_12 (gv_102_64 _) ?_
            refine zr_iload (pc' := 506) dX12_flows_504 rfl rfl ?_
            refine zr_iload (pc' := 508) dX12_flows_506 rfl rfl ?_
            refine zr_iadd (pc' := 509) dX12_flows_508 rfl ?_
            refine zr_iald (pc' := 510) dX12_flows_509 rfl ps_137 kd_137 (by decide) h.1.1 h.1.2 ?_
            have h := h.2
            refine zr_if_eq (tgt := 564) (pc' := 513) dX12_flows_510 rfl rfl h.1 (fun hc => ?_) (fun hc => ?_)
            · have h := h.2.1 hc
              refine zr_iinc (pc' := 567) (al' := [(7, .inl (l7 + 1)), (0, .inr (.inr 102)), (1, .inl l1), (2, .inl l2), (3, .inl l3), (5, .inl l5)]) dX12_flows_564 rfl rfl (by decide) rfl ?_
              refine zr_goto (pc' := 461) dX12_flows_567 rfl ?_
              obtain ⟨n', hn, h⟩ := h
              exact zn_al ((ih n' hn).2.2.2.2 _ _ _ _ _ _ h) ⟨rfl, rfl, rfl, rfl, rfl, rfl, trivial⟩
            · have h := h.2.2 hc
              refine zr_aload_n (pc' := 514) (i := 0) dX12_flows_513 rfl rfl rfl ?_
              refine zr_get (pc' := 517) dX12_flows_514 rfl ps_102 kd_102 fl_X12_133 kc_12 (gv_102_67 _) ?_
              refine zr_iload (pc' := 519) dX12_flows_517 rfl rfl ?_
              refine zr_iald (pc' := 520) dX12_flows_519 rfl ps_140 kd_140 (by decide) h.1.1 h.1.2 ?_
              have h := h.2
              refine zr_if_gt (tgt := 564) (pc' := 523) dX12_flows_520 rfl rfl h.1 (fun hc => ?_) (fun hc => ?_)
              · have h := h.2.1 hc
                refine zr_iinc (pc' := 567) (al' := [(7, .inl (l7 + 1)), (0, .inr (.inr 102)), (1, .inl l1), (2, .inl l2), (3, .inl l3), (5, .inl l5)]) dX12_flows_564 rfl rfl (by decide) rfl ?_
                refine zr_goto (pc' := 461) dX12_flows_567 rfl ?_
                obtain ⟨n', hn, h⟩ := h
                exact zn_al ((ih n' hn).2.2.2.2 _ _ _ _ _ _ h) ⟨rfl, rfl, rfl, rfl, rfl, rfl, trivial⟩
              · have h := h.2.2 hc
                refine zr_aload_n (pc' := 524) (i := 0) dX12_flows_523 rfl rfl rfl ?_
                refine zr_get (pc' := 527) dX12_flows_524 rfl ps_102 kd_102 fl_X12_136 kc_12 (gv_102_68 _) ?_
                refine zr_iload (pc' := 529) dX12_flows_527 rfl rfl ?_
                refine zr_iald (pc' := 530) dX12_flows_529 rfl ps_141 kd_141 (by decide) h.1.1 h.1.2 ?_
                have h := h.2
                refine zr_if_le (tgt := 536) (pc' := 533) dX12_flows_530 rfl rfl h.1 (fun hc => ?_) (fun hc => ?_)
                · have h := h.2.1 hc
                  refine zr_aload_n (pc' := 537) (i := 0) dX12_flows_536 rfl rfl rfl ?_
                  refine zr_get (pc' := 540) dX12_flows_537 rfl ps_102 kd_102 fl_X12_124 kc_12 (gv_102_64 _) ?_
                  refine zr_iload (pc' := 542) dX12_flows_540 rfl rfl ?_
                  refine zr_iload (pc' := 544) dX12_flows_542 rfl rfl ?_
                  refine zr_iadd (pc' := 545) dX12_flows_544 rfl ?_
                  refine zr_dup2 (pc' := 546) dX12_flows_545 rfl rfl rfl ?_
                  refine zr_iald (pc' := 547) dX12_flows_546 rfl ps_137 kd_137 (by decide) h.1.1 h.1.2 ?_
                  have h := h.2
                  refine zr_iconst (pc' := 548) dX12_flows_547 rfl ?_
                  refine zr_isub (pc' := 549) dX12_flows_548 rfl ?_
                  refine zr_iast (pc' := 550) dX12_flows_549 rfl ps_137 kd_137 (by decide) h.1.1 h.1.2 (fun M39 hM1 => ?_)
                  have h := h.2 M39 hM1
                  refine zr_aload_n (pc' := 551) (i := 0) dX12_flows_550 rfl rfl rfl ?_
                  refine zr_get (pc' := 554) dX12_flows_551 rfl ps_102 kd_102 fl_X12_127 kc_12 (gv_102_65 _) ?_
                  refine zr_iload (pc' := 556) dX12_flows_554 rfl rfl ?_
                  refine zr_iload (pc' := 558) dX12_flows_556 rfl rfl ?_
                  refine zr_iadd (pc' := 559) dX12_flows_558 rfl ?_
                  refine zr_dup2 (pc' := 560) dX12_flows_559 rfl rfl rfl ?_
                  refine zr_iald (pc' := 561) dX12_flows_560 rfl ps_138 kd_138 (by decide) h.1.1 h.1.2 ?_
                  have h := h.2
                  refine zr_iconst (pc' := 562) dX12_flows_561 rfl ?_
                  refine zr_iadd (pc' := 563) dX12_flows_562 rfl ?_
                  refine zr_iast (pc' := 564) dX12_flows_563 rfl ps_138 kd_138 (by decide) h.1.1 h.1.2 (fun M40 hM1 => ?_)
                  have h := h.2 M40 hM1
                  refine zr_iinc (pc' := 567) (al' := [(7, .inl (l7 + 1)), (0, .inr (.inr 102)), (1, .inl l1), (2, .inl l2), (3, .inl l3), (5, .inl l5)]) dX12_flows_564 rfl rfl (by decide) rfl ?_
                  refine zr_goto (pc' := 461) dX12_flows_567 rfl ?_
                  obtain ⟨n', hn, h⟩ := h
                  exact zn_al ((ih n' hn).2.2.2.2 _ _ _ _ _ _ h) ⟨rfl, rfl, rfl, rfl, rfl, rfl, trivial⟩
                · have h := h.2.2 hc
                  refine zr_goto (pc' := 564) dX12_flows_533 rfl ?_
                  refine zr_iinc (pc' := 567) (al' := [(7, .inl (l7 + 1)), (0, .inr (.inr 102)), (1, .inl l1), (2, .inl l2), (3, .inl l3), (5, .inl l5)]) dX12_flows_564 rfl rfl (by decide) rfl ?_
                  refine zr_goto (pc' := 461) dX12_flows_567 rfl ?_
                  obtain ⟨n', hn, h⟩ := h
                  exact zn_al ((ih n' hn).2.2.2.2 _ _ _ _ _ _ h) ⟨rfl, rfl, rfl, rfl, rfl, rfl, trivial⟩
          · have h := h.2.2 hc
            refine zr_aload_n (pc' := 481) (i := 0) dX12_flows_480 rfl rfl rfl ?_
            refine zr_get (pc' := 484) dX12_flows_481 rfl ps_102 kd_102 fl_X12_130 kc_12 (gv_102_66 _) ?_
            refine zr_iload (pc' := 486) dX12_flows_484 rfl rfl ?_
            refine zr_iald (pc' := 487) dX12_flows_486 rfl ps_139 kd_139 (by decide) h.1.1 h.1.2 ?_
            have h := h.2
            refine zr_bipush (pc' := 489) dX12_flows_487 rfl rfl ?_
            refine zr_icmp_ne (tgt := 500) (pc' := 492) dX12_flows_489 rfl rfl h.1 (zRd rfl) (fun hc => ?_) (fun hc => ?_)
            · have h := h.2.1 hc
              refine zr_aload_n (pc' := 501) (i := 0) dX12_flows_500 rfl rfl rfl ?_
              refine zr_get (pc' := 504) dX12_flows_501 rfl ps_102 kd_102 fl_X12_124 kc_12 (gv_102_64 _) ?_
              refine zr_iload (pc' := 506) dX12_flows_504 rfl rfl ?_
              refine zr_iload (pc' := 508) dX12_flows_506 rfl rfl ?_
              refine zr_iadd (pc' := 509) dX12_flows_508 rfl ?_
              refine zr_iald (pc' := 510) dX12_flows_509 rfl ps_137 kd_137 (by decide) h.1.1 h.1.2 ?_
              have h := h.2
              refine zr_if_eq (tgt := 564) (pc' := 513) dX12_flows_510 rfl rfl h.1 (fun hc => ?_) (fun hc => ?_)
              · have h := h.2.1 hc
                refine zr_iinc (pc' := 567) (al' := [(7, .inl (l7 + 1)), (0, .inr (.inr 102)), (1, .inl l1), (2, .inl l2), (3, .inl l3), (5, .inl l5)]) dX12_flows_564 rfl rfl (by decide) rfl ?_
                refine zr_goto (pc' := 461) dX12_flows_567 rfl ?_
                obtain ⟨n', hn, h⟩ := h
                exact zn_al ((ih n' hn).2.2.2.2 _ _ _ _ _ _ h) ⟨rfl, rfl, rfl, rfl, rfl, rfl, trivial⟩
              · have h := h.2.2 hc
                refine zr_aload_n (pc' := 514) (i := 0) dX12_flows_513 rfl rfl rfl ?_
                refine zr_get (pc' := 517) dX12_flows_514 rfl ps_102 kd_102 fl_X12_133 kc_12 (gv_102_67 _) ?_
                refine zr_iload (pc' := 519) dX12_flows_517 rfl rfl ?_
                refine zr_iald (pc' := 520) dX12_flows_519 rfl ps_140 kd_140 (by decide) h.1.1 h.1.2 ?_
                have h := h.2
                refine zr_if_gt (tgt := 564) (pc' := 523) dX12_flows_520 rfl rfl h.1 (fun hc => ?_) (fun hc => ?_)
                · have h := h.2.1 hc
                  refine zr_iinc (pc' := 567) (al' := [(7, .inl (l7 + 1)), (0, .inr (.inr 102)), (1, .inl l1), (2, .inl l2), (3, .inl l3), (5, .inl l5)]) dX12_flows_564 rfl rfl (by decide) rfl ?_
                  refine zr_goto (pc' := 461) dX12_flows_567 rfl ?_
                  obtain ⟨n', hn, h⟩ := h
                  exact zn_al ((ih n' hn).2.2.2.2 _ _ _ _ _ _ h) ⟨rfl, rfl, rfl, rfl, rfl, rfl, trivial⟩
                · have h := h.2.2 hc
                  refine zr_aload_n (pc' := 524) (i := 0) dX12_flows_523 rfl rfl rfl ?_
                  refine zr_get (pc' := 527) dX12_flows_524 rfl ps_102 kd_102 fl_X12_136 kc_12 (gv_102_68 _) ?_
                  refine zr_iload (pc' := 529) dX12_flows_527 rfl rfl ?_
                  refine zr_iald (pc' := 530) dX12_flows_529 rfl ps_141 kd_141 (by decide) h.1.1 h.1.2 ?_
                  have h := h.2
                  refine zr_if_le (tgt := 536) (pc' := 533) dX12_flows_530 rfl rfl h.1 (fun hc => ?_) (fun hc => ?_)
                  · have h := h.2.1 hc
                    refine zr_aload_n (pc' := 537) (i := 0) dX12_flows_536 rfl rfl rfl ?_
                    refine zr_get (pc' := 540) dX12_flows_537 rfl ps_102 kd_102 fl_X12_124 kc_12 (gv_102_64 _) ?_
                    refine zr_iload (pc' := 542) dX12_flows_540 rfl rfl ?_
                    refine zr_iload (pc' := 544) dX12_flows_542 rfl rfl ?_
                    refine zr_iadd (pc' := 545) dX12_flows_544 rfl ?_
                    refine zr_dup2 (pc' := 546) dX12_flows_545 rfl rfl rfl ?_
                    refine zr_iald (pc' := 547) dX12_flows_546 rfl ps_137 kd_137 (by decide) h.1.1 h.1.2 ?_
                    have h := h.2
                    refine zr_iconst (pc' := 548) dX12_flows_547 rfl ?_
                    refine zr_isub (pc' := 549) dX12_flows_548 rfl ?_
                    refine zr_iast (pc' := 550) dX12_flows_549 rfl ps_137 kd_137 (by decide) h.1.1 h.1.2 (fun M41 hM1 => ?_)
                    have h := h.2 M41 hM1
                    refine zr_aload_n (pc' := 551) (i := 0) dX12_flows_550 rfl rfl rfl ?_
                    refine zr_get (pc' := 554) dX12_flows_551 rfl ps_102 kd_102 fl_X12_127 kc_12 (gv_102_65 _) ?_
                    refine zr_iload (pc' := 556) dX12_flows_554 rfl rfl ?_
                    refine zr_iload (pc' := 558) dX12_flows_556 rfl rfl ?_
                    refine zr_iadd (pc' := 559) dX12_flows_558 rfl ?_
                    refine zr_dup2 (pc' := 560) dX12_flows_559 rfl rfl rfl ?_
                    refine zr_iald (pc' := 561) dX12_flows_560 rfl ps_138 kd_138 (by decide) h.1.1 h.1.2 ?_
                    have h := h.2
                    refine zr_iconst (pc' := 562) dX12_flows_561 rfl ?_
                    refine zr_iadd (pc' := 563) dX12_flows_562 rfl ?_
                    refine zr_iast (pc' := 564) dX12_flows_563 rfl ps_138 kd_138 (by decide) h.1.1 h.1.2 (fun M42 hM1 => ?_)
                    have h := h.2 M42 hM1
                    refine zr_iinc (pc' := 567) (al' := [(7, .inl (l7 + 1)), (0, .inr (.inr 102)), (1, .inl l1), (2, .inl l2), (3, .inl l3), (5, .inl l5)]) dX12_flows_564 rfl rfl (by decide) rfl ?_
                    refine zr_goto (pc' := 461) dX12_flows_567 rfl ?_
                    obtain ⟨n', hn, h⟩ := h
                    exact zn_al ((ih n' hn).2.2.2.2 _ _ _ _ _ _ h) ⟨rfl, rfl, rfl, rfl, rfl, rfl, trivial⟩
                  · have h := h.2.2 hc
                    refine zr_goto (pc' := 564) dX12_flows_533 rfl ?_
                    refine zr_iinc (pc' := 567) (al' := [(7, .inl (l7 + 1)), (0, .inr (.inr 102)), (1, .inl l1), (2, .inl l2), (3, .inl l3), (5, .inl l5)]) dX12_flows_564 rfl rfl (by decide) rfl ?_
                    refine zr_goto (pc' := 461) dX12_flows_567 rfl ?_
                    obtain ⟨n', hn, h⟩ := h
                    exact zn_al ((ih n' hn).2.2.2.2 _ _ _ _ _ _ h) ⟨rfl, rfl, rfl, rfl, rfl, rfl, trivial⟩
            · have h := h.2.2 hc
              refine zr_aload_n (pc' := 493) (i := 0) dX12_flows_492 rfl rfl rfl ?_
              refine zr_get (pc' := 496) dX12_flows_493 rfl ps_102 kd_102 fl_X12_130 kc_12 (gv_102_66 _) ?_
              refine zr_iload (pc' := 498) dX12_flows_496 rfl rfl ?_
              refine zr_iload_n (pc' := 499) (i := 3) dX12_flows_498 rfl rfl rfl ?_
              refine zr_iast (pc' := 500) dX12_flows_499 rfl ps_139 kd_139 (by decide) h.1.1 h.1.2 (fun M43 hM1 => ?_)
              have h := h.2 M43 hM1
              refine zr_aload_n (pc' := 501) (i := 0) dX12_flows_500 rfl rfl rfl ?_
              refine zr_get (pc' := 504) dX12_flows_501 rfl ps_102 kd_102 fl_X12_124 kc_12 (gv_102_64 _) ?_
              refine zr_iload (pc' := 506) dX12_flows_504 rfl rfl ?_
              refine zr_iload (pc' := 508) dX12_flows_506 rfl rfl ?_
              refine zr_iadd (pc' := 509) dX12_flows_508 rfl ?_
              refine zr_iald (pc' := 510) dX12_flows_509 rfl ps_137 kd_137 (by decide) h.1.1 h.1.2 ?_
              have h := h.2
              refine zr_if_eq (tgt := 564) (pc' := 513) dX12_flows_510 rfl rfl h.1 (fun hc => ?_) (fun hc => ?_)
              · have h := h.2.1 hc
                refine zr_iinc (pc' := 567) (al' := [(7, .inl (l7 + 1)), (0, .inr (.inr 102)), (1, .inl l1), (2, .inl l2), (3, .inl l3), (5, .inl l5)]) dX12_flows_564 rfl rfl (by decide) rfl ?_
                refine zr_goto (pc' := 461) dX12_flows_567 rfl ?_
                obtain ⟨n', hn, h⟩ := h
                exact zn_al ((ih n' hn).2.2.2.2 _ _ _ _ _ _ h) ⟨rfl, rfl, rfl, rfl, rfl, rfl, trivial⟩
              · have h := h.2.2 hc
                refine zr_aload_n (pc' := 514) (i := 0) dX12_flows_513 rfl rfl rfl ?_
                refine zr_get (pc' := 517) dX12_flows_514 rfl ps_102 kd_102 fl_X12_133 kc_12 (gv_102_67 _) ?_
                refine zr_iload (pc' := 519) dX12_flows_517 rfl rfl ?_
                refine zr_iald (pc' := 520) dX12_flows_519 rfl ps_140 kd_140 (by decide) h.1.1 h.1.2 ?_
                have h := h.2
                refine zr_if_gt (tgt := 564) (pc' := 523) dX12_flows_520 rfl rfl h.1 (fun hc => ?_) (fun hc => ?_)
                · have h := h.2.1 hc
                  refine zr_iinc (pc' := 567) (al' := [(7, .inl (l7 + 1)), (0, .inr (.inr 102)), (1, .inl l1), (2, .inl l2), (3, .inl l3), (5, .inl l5)]) dX12_flows_564 rfl rfl (by decide) rfl ?_
                  refine zr_goto (pc' := 461) dX12_flows_567 rfl ?_
                  obtain ⟨n', hn, h⟩ := h
                  exact zn_al ((ih n' hn).2.2.2.2 _ _ _ _ _ _ h) ⟨rfl, rfl, rfl, rfl, rfl, rfl, trivial⟩
                · have h := h.2.2 hc
                  refine zr_aload_n (pc' := 524) (i := 0) dX12_flows_523 rfl rfl rfl ?_
                  refine zr_get (pc' := 527) dX12_flows_524 rfl ps_102 kd_102 fl_X12_136 kc_12 (gv_102_68 _) ?_
                  refine zr_iload (pc' := 529) dX12_flows_527 rfl rfl ?_
                  refine zr_iald (pc' := 530) dX12_flows_529 rfl ps_141 kd_141 (by decide) h.1.1 h.1.2 ?_
                  have h := h.2
                  refine zr_if_le (tgt := 536) (pc' := 533) dX12_flows_530 rfl rfl h.1 (fun hc => ?_) (fun hc => ?_)
                  · have h := h.2.1 hc
                    refine zr_aload_n (pc' := 537) (i := 0) dX12_flows_536 rfl rfl rfl ?_
                    refine zr_get (pc' := 540) dX12_flows_537 rfl ps_102 kd_102 fl_X12_124 kc_12 (gv_102_64 _) ?_
                    refine zr_iload (pc' := 542) dX12_flows_540 rfl rfl ?_
                    refine zr_iload (pc' := 544) dX12_flows_542 rfl rfl ?_
                    refine zr_iadd (pc' := 545) dX12_flows_544 rfl ?_
                    refine zr_dup2 (pc' := 546) dX12_flows_545 rfl rfl rfl ?_
                    refine zr_iald (pc' := 547) dX12_flows_546 rfl ps_137 kd_137 (by decide) h.1.1 h.1.2 ?_
                    have h := h.2
                    refine zr_iconst (pc' := 548) dX12_flows_547 rfl ?_
                    refine zr_isub (pc' := 549) dX12_flows_548 rfl ?_
                    refine zr_iast (pc' := 550) dX12_flows_549 rfl ps_137 kd_137 (by decide) h.1.1 h.1.2 (fun M44 hM1 => ?_)
                    have h := h.2 M44 hM1
                    refine zr_aload_n (pc' := 551) (i := 0) dX12_flows_550 rfl rfl rfl ?_
                    refine zr_get (pc' := 554) dX12_flows_551 rfl ps_102 kd_102 fl_X12_127 kc_12 (gv_102_65 _) ?_
                    refine zr_iload (pc' := 556) dX12_flows_554 rfl rfl ?_
                    refine zr_iload (pc' := 558) dX12_flows_556 rfl rfl ?_
                    refine zr_iadd (pc' := 559) dX12_flows_558 rfl ?_
                    refine zr_dup2 (pc' := 560) dX12_flows_559 rfl rfl rfl ?_
                    refine zr_iald (pc' := 561) dX12_flows_560 rfl ps_138 kd_138 (by decide) h.1.1 h.1.2 ?_
                    have h := h.2
                    refine zr_iconst (pc' := 562) dX12_flows_561 rfl ?_
                    refine zr_iadd (pc' := 563) dX12_flows_562 rfl ?_
                    refine zr_iast (pc' := 564) dX12_flows_563 rfl ps_138 kd_138 (by decide) h.1.1 h.1.2 (fun M45 hM1 => ?_)
                    have h := h.2 M45 hM1
                    refine zr_iinc (pc' := 567) (al' := [(7, .inl (l7 + 1)), (0, .inr (.inr 102)), (1, .inl l1), (2, .inl l2), (3, .inl l3), (5, .inl l5)]) dX12_flows_564 rfl rfl (by decide) rfl ?_
                    refine zr_goto (pc' := 461) dX12_flows_567 rfl ?_
                    obtain ⟨n', hn, h⟩ := h
                    exact zn_al ((ih n' hn).2.2.2.2 _ _ _ _ _ _ h) ⟨rfl, rfl, rfl, rfl, rfl, rfl, trivial⟩
                  · have h := h.2.2 hc
                    refine zr_goto (pc' := 564) dX12_flows_533 rfl ?_
                    refine zr_iinc (pc' := 567) (al' := [(7, .inl (l7 + 1)), (0, .inr (.inr 102)), (1, .inl l1), (2, .inl l2), (3, .inl l3), (5, .inl l5)]) dX12_flows_564 rfl rfl (by decide) rfl ?_
                    refine zr_goto (pc' := 461) dX12_flows_567 rfl ?_
                    obtain ⟨n', hn, h⟩ := h
                    exact zn_al ((ih n' hn).2.2.2.2 _ _ _ _ _ _ h) ⟨rfl, rfl, rfl, rfl, rfl, rfl, trivial⟩
  refine zP_of (by decide +kernel) rfl (Nat.le_of_ble_eq_true rfl) ?_
  show zA E zNN (0, 0) mX12_flows 0 [(0, .inr (.inr 102)), (1, .inl l1)] [] M (zQ Q)
  refine zr_aload_n (pc' := 1) (i := 0) dX12_flows_0 rfl rfl rfl ?_
  refine zr_get (pc' := 4) dX12_flows_1 rfl ps_102 kd_102 fl_X12_91 kc_12 (gv_102_51 _) ?_
  refine zr_aload_n (pc' := 5) (i := 0) dX12_flows_4 rfl rfl rfl ?_
  refine zr_get (pc' := 8) dX12_flows_5 rfl ps_102 kd_102 fl_X12_94 kc_12 (gv_102_52 _) ?_
  refine zr_imul (pc' := 9) dX12_flows_8 rfl ?_
  refine zr_istore_n (pc' := 10) (i := 2) (al' := [(2, .inl ((M 102 51) * (M 102 52))), (0, .inr (.inr 102)), (1, .inl l1)]) dX12_flows_9 rfl rfl (by decide) rfl ?_
  refine zr_iconst (pc' := 11) dX12_flows_10 rfl ?_
  refine zr_istore_n (pc' := 12) (i := 3) (al' := [(3, .inl 0), (2, .inl ((M 102 51) * (M 102 52))), (0, .inr (.inr 102)), (1, .inl l1)]) dX12_flows_11 rfl rfl (by decide) rfl ?_
  obtain ⟨n', h⟩ := h
  exact zn_al ((key n').1 _ _ _ _ h) ⟨rfl, rfl, rfl, rfl, trivial⟩
set_option maxRecDepth 20000 in
theorem vcX12_isWorld {E : zE} {M : zM} {Q : Int → zM → Prop} (l1 : Int)
    (h : ((zR l1) ∧ ((l1 < 0 → Q 0 M) ∧ (0 ≤ l1 → ((zR l1 ∧ zR (M 102 58)) ∧ (((M 102 58) ≤ l1 → Q 0 M) ∧ (l1 < (M 102 58) → Q 1 M)))))))
    : zP E mX12_isWorld [.inr (.inr 102), .inl l1] M Q := by
  refine zP_of (by decide +kernel) rfl (Nat.le_of_ble_eq_true rfl) ?_
  show zA E zNN (0, 0) mX12_isWorld 0 [(0, .inr (.inr 102)), (1, .inl l1)] [] M (zQ Q)
  refine zr_iload_n (pc' := 1) (i := 1) dX12_isWorld_0 rfl rfl rfl ?_
  refine zr_if_lt (tgt := 16) (pc' := 4) dX12_isWorld_1 rfl rfl h.1 (fun hc => ?_) (fun hc => ?_)
  · have h := h.2.1 hc
    refine zr_iconst (pc' := 17) dX12_isWorld_16 rfl ?_
    exact zr_ireturn dX12_isWorld_17 rfl rfl (Or.inl rfl) (Nat.le_refl _) (Nat.le_refl _) (And.intro rfl h)
  · have h := h.2.2 hc
    refine zr_iload_n (pc' := 5) (i := 1) dX12_isWorld_4 rfl rfl rfl ?_
    refine zr_aload_n (pc' := 6) (i := 0) dX12_isWorld_5 rfl rfl rfl ?_
    refine zr_get (pc' := 9) dX12_isWorld_6 rfl ps_102 kd_102 fl_X12_411 kc_12 (gv_102_58 _) ?_
    refine zr_icmp_ge (tgt := 16) (pc' := 12) dX12_isWorld_9 rfl rfl h.1.1 h.1.2 (fun hc => ?_) (fun hc => ?_)
    · have h := h.2.1 hc
      refine zr_iconst (pc' := 17) dX12_isWorld_16 rfl ?_
      exact zr_ireturn dX12_isWorld_17 rfl rfl (Or.inl rfl) (Nat.le_refl _) (Nat.le_refl _) (And.intro rfl h)
    · have h := h.2.2 hc
      refine zr_iconst (pc' := 13) dX12_isWorld_12 rfl ?_
      refine zr_goto (pc' := 17) dX12_isWorld_13 rfl ?_
      exact zr_ireturn dX12_isWorld_17 rfl rfl (Or.inr rfl) (Nat.le_refl _) (Nat.le_refl _) (And.intro rfl h)
set_option maxRecDepth 20000 in
theorem vcX12_lava {E : zE} {M : zM} {Q : Int → zM → Prop} (l1 l2 l3 l4 : Int)
    (h : (∀ M1, M1 = zup M 102 2 0 → (zP E mX12_isWorld [.inr (.inr 102), .inl l1] M1 (fun r2 M3 => ((zR r2) ∧ ((r2 = 0 → Q (-1000) M3) ∧ (¬ r2 = 0 → (zP E mX12_isIn [.inl l2, .inl 0, .inl 12] M3 (fun r4 M5 => ((zR r4) ∧ ((r4 = 0 → Q (-1000) M5) ∧ (¬ r4 = 0 → (zP E mX12_isCell [.inr (.inr 102), .inl l3] M5 (fun r6 M7 => ((zR r6) ∧ ((r6 = 0 → Q (-1000) M7) ∧ (¬ r6 = 0 → (zP E mX12_isIn [.inl l4, .inl 0, .inl 1] M7 (fun r8 M9 => ((zR r8) ∧ ((¬ r8 = 0 → (zP E mX12_flows [.inr (.inr 102), .inl l1] M9 (fun r10 M11 => ((zR l4) ∧ ((¬ l4 = 0 → (0 ≤ (64 * l2) + l3 ∧ (64 * l2) + l3 < 832) ∧ Q (M11 138 (((64 * l2) + l3).toNat)) M11) ∧ (l4 = 0 → (0 ≤ (64 * l2) + l3 ∧ (64 * l2) + l3 < 832) ∧ Q (M11 137 (((64 * l2) + l3).toNat)) M11)))))) ∧ (r8 = 0 → Q (-1000) M9))))))))))))))))))))))
    : zP E mX12_lava [.inr (.inr 102), .inl l1, .inl l2, .inl l3, .inl l4] M Q := by
  refine zP_of (by decide +kernel) rfl (Nat.le_of_ble_eq_true rfl) ?_
  show zA E zNN (0, 0) mX12_lava 0 [(0, .inr (.inr 102)), (1, .inl l1), (2, .inl l2), (3, .inl l3), (4, .inl l4)] [] M (zQ Q)
  refine zr_aload_n (pc' := 1) (i := 0) dX12_lava_0 rfl rfl rfl ?_
  refine zr_iconst (pc' := 2) dX12_lava_1 rfl ?_
  refine zr_put (pc' := 5) dX12_lava_2 rfl ps_102 kd_102 fl_X12_208 kc_12 rfl nf_102_2 rfl trivial (fun M1 hM1 => ?_)
  have h := h M1 hM1
  refine zr_aload_n (pc' := 6) (i := 0) dX12_lava_5 rfl rfl rfl ?_
  refine zr_iload_n (pc' := 7) (i := 1) dX12_lava_6 rfl rfl rfl ?_
  refine zn_callV (pc' := 10) (args := [.inl l1]) (st := []) (st' := fun r2 => [.inl r2]) dX12_lava_7 rfl cv_X12_446 ⟨rfl, rfl, by decide, by decide⟩ rfl ps_102 kd_102 rfl rfl (Nat.le_of_ble_eq_true rfl) (fun _ => rfl) h ?_
  intro r2 M3 h
  refine zr_if_eq (tgt := 41) (pc' := 13) dX12_lava_10 rfl rfl h.1 (fun hc => ?_) (fun hc => ?_)
  · have h := h.2.1 hc
    refine zr_sipush (pc' := 44) dX12_lava_41 rfl rfl ?_
    exact zr_ireturn dX12_lava_44 rfl rfl trivial (Nat.le_refl _) (Nat.le_refl _) (And.intro rfl h)
  · have h := h.2.2 hc
    refine zr_iload_n (pc' := 14) (i := 2) dX12_lava_13 rfl rfl rfl ?_
    refine zr_iconst (pc' := 15) dX12_lava_14 rfl ?_
    refine zr_bipush (pc' := 17) dX12_lava_15 rfl rfl ?_
    refine zn_callS (pc' := 20) (args := [.inl l2, .inl 0, .inl 12]) (st := []) (st' := fun r4 => [.inl r4]) dX12_lava_17 rfl cs_X12_214 ⟨rfl, rfl, by decide, by decide⟩ rfl rfl rfl (Nat.le_of_ble_eq_true rfl) (fun _ => rfl) h ?_
    intro r4 M5 h
    refine zr_if_eq (tgt := 41) (pc' := 23) dX12_lava_20 rfl rfl h.1 (fun hc => ?_) (fun hc => ?_)
    · have h := h.2.1 hc
      refine zr_sipush (pc' := 44) dX12_lava_41 rfl rfl ?_
      exact zr_ireturn dX12_lava_44 rfl rfl trivial (Nat.le_refl _) (Nat.le_refl _) (And.intro rfl h)
    · have h := h.2.2 hc
      refine zr_aload_n (pc' := 24) (i := 0) dX12_lava_23 rfl rfl rfl ?_
      refine zr_iload_n (pc' := 25) (i := 3) dX12_lava_24 rfl rfl rfl ?_
      refine zn_callV (pc' := 28) (args := [.inl l3]) (st := []) (st' := fun r6 => [.inl r6]) dX12_lava_25 rfl cv_X12_423 ⟨rfl, rfl, by decide, by decide⟩ rfl ps_102 kd_102 rfl rfl (Nat.le_of_ble_eq_true rfl) (fun _ => rfl) h ?_
      intro r6 M7 h
      refine zr_if_eq (tgt := 41) (pc' := 31) dX12_lava_28 rfl rfl h.1 (fun hc => ?_) (fun hc => ?_)
      · have h := h.2.1 hc
        refine zr_sipush (pc' := 44) dX12_lava_41 rfl rfl ?_
        exact zr_ireturn dX12_lava_44 rfl rfl trivial (Nat.le_refl _) (Nat.le_refl _) (And.intro rfl h)
      · have h := h.2.2 hc
        refine zr_iload (pc' := 33) dX12_lava_31 rfl rfl ?_
        refine zr_iconst (pc' := 34) dX12_lava_33 rfl ?_
        refine zr_iconst (pc' := 35) dX12_lava_34 rfl ?_
        refine zn_callS (pc' := 38) (args := [.inl l4, .inl 0, .inl 1]) (st := []) (st' := fun r8 => [.inl r8]) dX12_lava_35 rfl cs_X12_214 ⟨rfl, rfl, by decide, by decide⟩ rfl rfl rfl (Nat.le_of_ble_eq_true rfl) (fun _ => rfl) h ?_
        intro r8 M9 h
        refine zr_if_ne (tgt := 45) (pc' := 41) dX12_lava_38 rfl rfl h.1 (fun hc => ?_) (fun hc => ?_)
        · have h := h.2.1 hc
          refine zr_aload_n (pc' := 46) (i := 0) dX12_lava_45 rfl rfl rfl ?_
          refine zr_iload_n (pc' := 47) (i := 1) dX12_lava_46 rfl rfl rfl ?_
          refine zn_callV (pc' := 50) (args := [.inl l1]) (st := []) (st' := fun _ => []) dX12_lava_47 rfl cv_X12_449 ⟨rfl, rfl, by decide, by decide⟩ rfl ps_102 kd_102 rfl rfl (Nat.le_of_ble_eq_true rfl) (fun _ => rfl) h ?_
          intro r10 M11 h
          refine zr_iload (pc' := 52) dX12_lava_50 rfl rfl ?_
          refine zr_if_ne (tgt := 69) (pc' := 55) dX12_lava_52 rfl rfl h.1 (fun hc => ?_) (fun hc => ?_)
          · have h := h.2.1 hc
            refine zr_aload_n (pc' := 70) (i := 0) dX12_lava_69 rfl rfl rfl ?_
            refine zr_get (pc' := 73) dX12_lava_70 rfl ps_102 kd_102 fl_X12_127 kc_12 (gv_102_65 _) ?_
            refine zr_bipush (pc' := 75) dX12_lava_73 rfl rfl ?_
            refine zr_iload_n (pc' := 76) (i := 2) dX12_lava_75 rfl rfl rfl ?_
            refine zr_imul (pc' := 77) dX12_lava_76 rfl ?_
            refine zr_iload_n (pc' := 78) (i := 3) dX12_lava_77 rfl rfl rfl ?_
            refine zr_iadd (pc' := 79) dX12_lava_78 rfl ?_
            refine zr_iald (pc' := 80) dX12_lava_79 rfl ps_138 kd_138 (by decide) h.1.1 h.1.2 ?_
            have h := h.2
            exact zr_ireturn dX12_lava_80 rfl rfl trivial (Nat.le_refl _) (Nat.le_refl _) (And.intro rfl h)
          · have h := h.2.2 hc
            refine zr_aload_n (pc' := 56) (i := 0) dX12_lava_55 rfl rfl rfl ?_
            refine zr_get (pc' := 59) dX12_lava_56 rfl ps_102 kd_102 fl_X12_124 kc_12 (gv_102_64 _) ?_
            refine zr_bipush (pc' := 61) dX12_lava_59 rfl rfl ?_
            refine zr_iload_n (pc' := 62) (i := 2) dX12_lava_61 rfl rfl rfl ?_
            refine zr_imul (pc' := 63) dX12_lava_62 rfl ?_
            refine zr_iload_n (pc' := 64) (i := 3) dX12_lava_63 rfl rfl rfl ?_
            refine zr_iadd (pc' := 65) dX12_lava_64 rfl ?_
            refine zr_iald (pc' := 66) dX12_lava_65 rfl ps_137 kd_137 (by decide) h.1.1 h.1.2 ?_
            have h := h.2
            refine zr_goto (pc' := 80) dX12_lava_66 rfl ?_
            exact zr_ireturn dX12_lava_80 rfl rfl trivial (Nat.le_refl _) (Nat.le_refl _) (And.intro rfl h)
        · have h := h.2.2 hc
          refine zr_sipush (pc' := 44) dX12_lava_41 rfl rfl ?_
          exact zr_ireturn dX12_lava_44 rfl rfl trivial (Nat.le_refl _) (Nat.le_refl _) (And.intro rfl h)
set_option maxRecDepth 20000 in
theorem vcX12_reached {E : zE} {M : zM} {Q : Int → zM → Prop} (l1 l2 : Int)
    (h : (∀ M1, M1 = zup M 102 2 0 → (zP E mX12_isWorld [.inr (.inr 102), .inl l1] M1 (fun r2 M3 => ((zR r2) ∧ ((r2 = 0 → Q (-1) M3) ∧ (¬ r2 = 0 → (zP E mX12_isCell [.inr (.inr 102), .inl l2] M3 (fun r4 M5 => ((zR r4) ∧ ((¬ r4 = 0 → (zP E mX12_flows [.inr (.inr 102), .inl l1] M5 (fun r6 M7 => (0 ≤ l2 ∧ l2 < 64) ∧ Q (M7 139 l2.toNat) M7))) ∧ (r4 = 0 → Q (-1) M5))))))))))))
    : zP E mX12_reached [.inr (.inr 102), .inl l1, .inl l2] M Q := by
  refine zP_of (by decide +kernel) rfl (Nat.le_of_ble_eq_true rfl) ?_
  show zA E zNN (0, 0) mX12_reached 0 [(0, .inr (.inr 102)), (1, .inl l1), (2, .inl l2)] [] M (zQ Q)
  refine zr_aload_n (pc' := 1) (i := 0) dX12_reached_0 rfl rfl rfl ?_
  refine zr_iconst (pc' := 2) dX12_reached_1 rfl ?_
  refine zr_put (pc' := 5) dX12_reached_2 rfl ps_102 kd_102 fl_X12_208 kc_12 rfl nf_102_2 rfl trivial (fun M1 hM1 => ?_)
  have h := h M1 hM1
  refine zr_aload_n (pc' := 6) (i := 0) dX12_reached_5 rfl rfl rfl ?_
  refine zr_iload_n (pc' := 7) (i := 1) dX12_reached_6 rfl rfl rfl ?_
  refine zn_callV (pc' := 10) (args := [.inl l1]) (st := []) (st' := fun r2 => [.inl r2]) dX12_reached_7 rfl cv_X12_446 ⟨rfl, rfl, by decide, by decide⟩ rfl ps_102 kd_102 rfl rfl (Nat.le_of_ble_eq_true rfl) (fun _ => rfl) h ?_
  intro r2 M3 h
  refine zr_if_eq (tgt := 21) (pc' := 13) dX12_reached_10 rfl rfl h.1 (fun hc => ?_) (fun hc => ?_)
  · have h := h.2.1 hc
    refine zr_iconst (pc' := 22) dX12_reached_21 rfl ?_
    exact zr_ireturn dX12_reached_22 rfl rfl trivial (Nat.le_refl _) (Nat.le_refl _) (And.intro rfl h)
  · have h := h.2.2 hc
    refine zr_aload_n (pc' := 14) (i := 0) dX12_reached_13 rfl rfl rfl ?_
    refine zr_iload_n (pc' := 15) (i := 2) dX12_reached_14 rfl rfl rfl ?_
    refine zn_callV (pc' := 18) (args := [.inl l2]) (st := []) (st' := fun r4 => [.inl r4]) dX12_reached_15 rfl cv_X12_423 ⟨rfl, rfl, by decide, by decide⟩ rfl ps_102 kd_102 rfl rfl (Nat.le_of_ble_eq_true rfl) (fun _ => rfl) h ?_
    intro r4 M5 h
    refine zr_if_ne (tgt := 23) (pc' := 21) dX12_reached_18 rfl rfl h.1 (fun hc => ?_) (fun hc => ?_)
    · have h := h.2.1 hc
      refine zr_aload_n (pc' := 24) (i := 0) dX12_reached_23 rfl rfl rfl ?_
      refine zr_iload_n (pc' := 25) (i := 1) dX12_reached_24 rfl rfl rfl ?_
      refine zn_callV (pc' := 28) (args := [.inl l1]) (st := []) (st' := fun _ => []) dX12_reached_25 rfl cv_X12_449 ⟨rfl, rfl, by decide, by decide⟩ rfl ps_102 kd_102 rfl rfl (Nat.le_of_ble_eq_true rfl) (fun _ => rfl) h ?_
      intro r6 M7 h
      refine zr_aload_n (pc' := 29) (i := 0) dX12_reached_28 rfl rfl rfl ?_
      refine zr_get (pc' := 32) dX12_reached_29 rfl ps_102 kd_102 fl_X12_130 kc_12 (gv_102_66 _) ?_
      refine zr_iload_n (pc' := 33) (i := 2) dX12_reached_32 rfl rfl rfl ?_
      refine zr_iald (pc' := 34) dX12_reached_33 rfl ps_139 kd_139 (by decide) h.1.1 h.1.2 ?_
      have h := h.2
      exact zr_ireturn dX12_reached_34 rfl rfl trivial (Nat.le_refl _) (Nat.le_refl _) (And.intro rfl h)
    · have h := h.2.2 hc
      refine zr_iconst (pc' := 22) dX12_reached_21 rfl ?_
      exact zr_ireturn dX12_reached_22 rfl rfl trivial (Nat.le_refl _) (Nat.le_refl _) (And.intro rfl h)
set_option maxRecDepth 20000 in
theorem vcX12_town {E : zE} {M : zM} {Q : Int → zM → Prop} (l1 l2 l3 l4 : Int)
    (h : (∀ M1, M1 = zup M 102 2 0 → ((zR (M1 102 69)) ∧ (((M1 102 69) = 8 → Q (-1) M1) ∧ (¬ (M1 102 69) = 8 → (zP E mX12_isCell [.inr (.inr 102), .inl l1] M1 (fun r2 M3 => ((zR r2) ∧ ((r2 = 0 → Q (-1) M3) ∧ (¬ r2 = 0 → (zP E mX12_isIn [.inl l2, .inl 1, .inl 999] M3 (fun r4 M5 => ((zR r4) ∧ ((r4 = 0 → Q (-1) M5) ∧ (¬ r4 = 0 → (zP E mX12_isIn [.inl l3, .inl 1, .inl 4] M5 (fun r6 M7 => ((zR r6) ∧ ((r6 = 0 → Q (-1) M7) ∧ (¬ r6 = 0 → (zP E mX12_isIn [.inl l4, .inl 0, .inl 5] M7 (fun r8 M9 => ((zR r8) ∧ ((¬ r8 = 0 → (0 ≤ M9 102 69 ∧ M9 102 69 < 8) ∧ (∀ M10, M10 = zup M9 142 ((M9 102 69).toNat) 1 → (0 ≤ M10 102 69 ∧ M10 102 69 < 8) ∧ (∀ M11, M11 = zup M10 143 ((M10 102 69).toNat) l1 → (0 ≤ M11 102 69 ∧ M11 102 69 < 8) ∧ (∀ M12, M12 = zup M11 144 ((M11 102 69).toNat) l2 → (0 ≤ M12 102 69 ∧ M12 102 69 < 8) ∧ (∀ M13, M13 = zup M12 145 ((M12 102 69).toNat) l3 → (0 ≤ M13 102 69 ∧ M13 102 69 < 8) ∧ (∀ M14, M14 = zup M13 146 ((M13 102 69).toNat) l4 → (∀ M15, M15 = zup M14 102 69 ((M14 102 69) + 1) → Q ((M15 102 69) - 1) M15))))))) ∧ (r8 = 0 → Q (-1) M9)))))))))))))))))))))))))
    : zP E mX12_town [.inr (.inr 102), .inl l1, .inl l2, .inl l3, .inl l4] M Q := by
  refine zP_of (by decide +kernel) rfl (Nat.le_of_ble_eq_true rfl) ?_
  show zA E zNN (0, 0) mX12_town 0 [(0, .inr (.inr 102)), (1, .inl l1), (2, .inl l2), (3, .inl l3), (4, .inl l4)] [] M (zQ Q)
  refine zr_aload_n (pc' := 1) (i := 0) dX12_town_0 rfl rfl rfl ?_
  refine zr_iconst (pc' := 2) dX12_town_1 rfl ?_
  refine zr_put (pc' := 5) dX12_town_2 rfl ps_102 kd_102 fl_X12_208 kc_12 rfl nf_102_2 rfl trivial (fun M1 hM1 => ?_)
  have h := h M1 hM1
  refine zr_aload_n (pc' := 6) (i := 0) dX12_town_5 rfl rfl rfl ?_
  refine zr_get (pc' := 9) dX12_town_6 rfl ps_102 kd_102 fl_X12_414 kc_12 (gv_102_69 _) ?_
  refine zr_bipush (pc' := 11) dX12_town_9 rfl rfl ?_
  refine zr_icmp_eq (tgt := 52) (pc' := 14) dX12_town_11 rfl rfl h.1 (zRd rfl) (fun hc => ?_) (fun hc => ?_)
  · have h := h.2.1 hc
    refine zr_iconst (pc' := 53) dX12_town_52 rfl ?_
    exact zr_ireturn dX12_town_53 rfl rfl trivial (Nat.le_refl _) (Nat.le_refl _) (And.intro rfl h)
  · have h := h.2.2 hc
    refine zr_aload_n (pc' := 15) (i := 0) dX12_town_14 rfl rfl rfl ?_
    refine zr_iload_n (pc' := 16) (i := 1) dX12_town_15 rfl rfl rfl ?_
    refine zn_callV (pc' := 19) (args := [.inl l1]) (st := []) (st' := fun r2 => [.inl r2]) dX12_town_16 rfl cv_X12_423 ⟨rfl, rfl, by decide, by decide⟩ rfl ps_102 kd_102 rfl rfl (Nat.le_of_ble_eq_true rfl) (fun _ => rfl) h ?_
    intro r2 M3 h
    refine zr_if_eq (tgt := 52) (pc' := 22) dX12_town_19 rfl rfl h.1 (fun hc => ?_) (fun hc => ?_)
    · have h := h.2.1 hc
      refine zr_iconst (pc' := 53) dX12_town_52 rfl ?_
      exact zr_ireturn dX12_town_53 rfl rfl trivial (Nat.le_refl _) (Nat.le_refl _) (And.intro rfl h)
    · have h := h.2.2 hc
      refine zr_iload_n (pc' := 23) (i := 2) dX12_town_22 rfl rfl rfl ?_
      refine zr_iconst (pc' := 24) dX12_town_23 rfl ?_
      refine zr_sipush (pc' := 27) dX12_town_24 rfl rfl ?_
      refine zn_callS (pc' := 30) (args := [.inl l2, .inl 1, .inl 999]) (st := []) (st' := fun r4 => [.inl r4]) dX12_town_27 rfl cs_X12_214 ⟨rfl, rfl, by decide, by decide⟩ rfl rfl rfl (Nat.le_of_ble_eq_true rfl) (fun _ => rfl) h ?_
      intro r4 M5 h
      refine zr_if_eq (tgt := 52) (pc' := 33) dX12_town_30 rfl rfl h.1 (fun hc => ?_) (fun hc => ?_)
      · have h := h.2.1 hc
        refine zr_iconst (pc' := 53) dX12_town_52 rfl ?_
        exact zr_ireturn dX12_town_53 rfl rfl trivial (Nat.le_refl _) (Nat.le_refl _) (And.intro rfl h)
      · have h := h.2.2 hc
        refine zr_iload_n (pc' := 34) (i := 3) dX12_town_33 rfl rfl rfl ?_
        refine zr_iconst (pc' := 35) dX12_town_34 rfl ?_
        refine zr_iconst (pc' := 36) dX12_town_35 rfl ?_
        refine zn_callS (pc' := 39) (args := [.inl l3, .inl 1, .inl 4]) (st := []) (st' := fun r6 => [.inl r6]) dX12_town_36 rfl cs_X12_214 ⟨rfl, rfl, by decide, by decide⟩ rfl rfl rfl (Nat.le_of_ble_eq_true rfl) (fun _ => rfl) h ?_
        intro r6 M7 h
        refine zr_if_eq (tgt := 52) (pc' := 42) dX12_town_39 rfl rfl h.1 (fun hc => ?_) (fun hc => ?_)
        · have h := h.2.1 hc
          refine zr_iconst (pc' := 53) dX12_town_52 rfl ?_
          exact zr_ireturn dX12_town_53 rfl rfl trivial (Nat.le_refl _) (Nat.le_refl _) (And.intro rfl h)
        · have h := h.2.2 hc
          refine zr_iload (pc' := 44) dX12_town_42 rfl rfl ?_
          refine zr_iconst (pc' := 45) dX12_town_44 rfl ?_
          refine zr_iconst (pc' := 46) dX12_town_45 rfl ?_
          refine zn_callS (pc' := 49) (args := [.inl l4, .inl 0, .inl 5]) (st := []) (st' := fun r8 => [.inl r8]) dX12_town_46 rfl cs_X12_214 ⟨rfl, rfl, by decide, by decide⟩ rfl rfl rfl (Nat.le_of_ble_eq_true rfl) (fun _ => rfl) h ?_
          intro r8 M9 h
          refine zr_if_ne (tgt := 54) (pc' := 52) dX12_town_49 rfl rfl h.1 (fun hc => ?_) (fun hc => ?_)
          · have h := h.2.1 hc
            refine zr_aload_n (pc' := 55) (i := 0) dX12_town_54 rfl rfl rfl ?_
            refine zr_get (pc' := 58) dX12_town_55 rfl ps_102 kd_102 fl_X12_139 kc_12 (gv_102_70 _) ?_
            refine zr_aload_n (pc' := 59) (i := 0) dX12_town_58 rfl rfl rfl ?_
            refine zr_get (pc' := 62) dX12_town_59 rfl ps_102 kd_102 fl_X12_414 kc_12 (gv_102_69 _) ?_
            refine zr_iconst (pc' := 63) dX12_town_62 rfl ?_
            refine zr_zast (pc' := 64) dX12_town_63 rfl ps_142 kd_142 (by decide) h.1.1 h.1.2 (Or.inr rfl) (fun M10 hM1 => ?_)
            have h := h.2 M10 hM1
            refine zr_aload_n (pc' := 65) (i := 0) dX12_town_64 rfl rfl rfl ?_
            refine zr_get (pc' := 68) dX12_town_65 rfl ps_102 kd_102 fl_X12_142 kc_12 (gv_102_71 _) ?_
            refine zr_aload_n (pc' := 69) (i := 0) dX12_town_68 rfl rfl rfl ?_
            refine zr_get (pc' := 72) dX12_town_69 rfl ps_102 kd_102 fl_X12_414 kc_12 (gv_102_69 _) ?_
            refine zr_iload_n (pc' := 73) (i := 1) dX12_town_72 rfl rfl rfl ?_
            refine zr_iast (pc' := 74) dX12_town_73 rfl ps_143 kd_143 (by decide) h.1.1 h.1.2 (fun M11 hM1 => ?_)
            have h := h.2 M11 hM1
            refine zr_aload_n (pc' := 75) (i := 0) dX12_town_74 rfl rfl rfl ?_
            refine zr_get (pc' := 78) dX12_town_75 rfl ps_102 kd_102 fl_X12_145 kc_12 (gv_102_72 _) ?_
            refine zr_aload_n (pc' := 79) (i := 0) dX12_town_78 rfl rfl rfl ?_
            refine zr_get (pc' := 82) dX12_town_79 rfl ps_102 kd_102 fl_X12_414 kc_12 (gv_102_69 _) ?_
            refine zr_iload_n (pc' := 83) (i := 2) dX12_town_82 rfl rfl rfl ?_
            refine zr_iast (pc' := 84) dX12_town_83 rfl ps_144 kd_144 (by decide) h.1.1 h.1.2 (fun M12 hM1 => ?_)
            have h := h.2 M12 hM1
            refine zr_aload_n (pc' := 85) (i := 0) dX12_town_84 rfl rfl rfl ?_
            refine zr_get (pc' := 88) dX12_town_85 rfl ps_102 kd_102 fl_X12_148 kc_12 (gv_102_73 _) ?_
            refine zr_aload_n (pc' := 89) (i := 0) dX12_town_88 rfl rfl rfl ?_
            refine zr_get (pc' := 92) dX12_town_89 rfl ps_102 kd_102 fl_X12_414 kc_12 (gv_102_69 _) ?_
            refine zr_iload_n (pc' := 93) (i := 3) dX12_town_92 rfl rfl rfl ?_
            refine zr_iast (pc' := 94) dX12_town_93 rfl ps_145 kd_145 (by decide) h.1.1 h.1.2 (fun M13 hM1 => ?_)
            have h := h.2 M13 hM1
            refine zr_aload_n (pc' := 95) (i := 0) dX12_town_94 rfl rfl rfl ?_
            refine zr_get (pc' := 98) dX12_town_95 rfl ps_102 kd_102 fl_X12_151 kc_12 (gv_102_74 _) ?_
            refine zr_aload_n (pc' := 99) (i := 0) dX12_town_98 rfl rfl rfl ?_
            refine zr_get (pc' := 102) dX12_town_99 rfl ps_102 kd_102 fl_X12_414 kc_12 (gv_102_69 _) ?_
            refine zr_iload (pc' := 104) dX12_town_102 rfl rfl ?_
            refine zr_iast (pc' := 105) dX12_town_104 rfl ps_146 kd_146 (by decide) h.1.1 h.1.2 (fun M14 hM1 => ?_)
            have h := h.2 M14 hM1
            refine zr_aload_n (pc' := 106) (i := 0) dX12_town_105 rfl rfl rfl ?_
            refine zr_dup (pc' := 107) dX12_town_106 rfl rfl ?_
            refine zr_get (pc' := 110) dX12_town_107 rfl ps_102 kd_102 fl_X12_414 kc_12 (gv_102_69 _) ?_
            refine zr_iconst (pc' := 111) dX12_town_110 rfl ?_
            refine zr_iadd (pc' := 112) dX12_town_111 rfl ?_
            refine zr_put (pc' := 115) dX12_town_112 rfl ps_102 kd_102 fl_X12_414 kc_12 rfl nf_102_69 rfl trivial (fun M15 hM1 => ?_)
            have h := h M15 hM1
            refine zr_aload_n (pc' := 116) (i := 0) dX12_town_115 rfl rfl rfl ?_
            refine zr_get (pc' := 119) dX12_town_116 rfl ps_102 kd_102 fl_X12_414 kc_12 (gv_102_69 _) ?_
            refine zr_iconst (pc' := 120) dX12_town_119 rfl ?_
            refine zr_isub (pc' := 121) dX12_town_120 rfl ?_
            exact zr_ireturn dX12_town_121 rfl rfl trivial (Nat.le_refl _) (Nat.le_refl _) (And.intro rfl h)
          · have h := h.2.2 hc
            refine zr_iconst (pc' := 53) dX12_town_52 rfl ?_
            exact zr_ireturn dX12_town_53 rfl rfl trivial (Nat.le_refl _) (Nat.le_refl _) (And.intro rfl h)
set_option maxRecDepth 20000 in
theorem vcX12_shelter {E : zE} {M : zM} {Q : Int → zM → Prop} (l1 : Int)
    (h : (∀ M1, M1 = zup M 102 2 0 → ((zR (M1 102 69)) ∧ (((M1 102 69) = 8 → Q (-1) M1) ∧ (¬ (M1 102 69) = 8 → (zP E mX12_isIn [.inl l1, .inl 0, .inl 9999] M1 (fun r2 M3 => ((zR r2) ∧ ((¬ r2 = 0 → (0 ≤ M3 102 69 ∧ M3 102 69 < 8) ∧ (∀ M4, M4 = zup M3 142 ((M3 102 69).toNat) 0 → (0 ≤ M4 102 69 ∧ M4 102 69 < 8) ∧ (∀ M5, M5 = zup M4 147 ((M4 102 69).toNat) l1 → (∀ M6, M6 = zup M5 102 69 ((M5 102 69) + 1) → Q ((M6 102 69) - 1) M6)))) ∧ (r2 = 0 → Q (-1) M3))))))))))
    : zP E mX12_shelter [.inr (.inr 102), .inl l1] M Q := by
  refine zP_of (by decide +kernel) rfl (Nat.le_of_ble_eq_true rfl) ?_
  show zA E zNN (0, 0) mX12_shelter 0 [(0, .inr (.inr 102)), (1, .inl l1)] [] M (zQ Q)
  refine zr_aload_n (pc' := 1) (i := 0) dX12_shelter_0 rfl rfl rfl ?_
  refine zr_iconst (pc' := 2) dX12_shelter_1 rfl ?_
  refine zr_put (pc' := 5) dX12_shelter_2 rfl ps_102 kd_102 fl_X12_208 kc_12 rfl nf_102_2 rfl trivial (fun M1 hM1 => ?_)
  have h := h M1 hM1
  refine zr_aload_n (pc' := 6) (i := 0) dX12_shelter_5 rfl rfl rfl ?_
  refine zr_get (pc' := 9) dX12_shelter_6 rfl ps_102 kd_102 fl_X12_414 kc_12 (gv_102_69 _) ?_
  refine zr_bipush (pc' := 11) dX12_shelter_9 rfl rfl ?_
  refine zr_icmp_eq (tgt := 25) (pc' := 14) dX12_shelter_11 rfl rfl h.1 (zRd rfl) (fun hc => ?_) (fun hc => ?_)
  · have h := h.2.1 hc
    refine zr_iconst (pc' := 26) dX12_shelter_25 rfl ?_
    exact zr_ireturn dX12_shelter_26 rfl rfl trivial (Nat.le_refl _) (Nat.le_refl _) (And.intro rfl h)
  · have h := h.2.2 hc
    refine zr_iload_n (pc' := 15) (i := 1) dX12_shelter_14 rfl rfl rfl ?_
    refine zr_iconst (pc' := 16) dX12_shelter_15 rfl ?_
    refine zr_sipush (pc' := 19) dX12_shelter_16 rfl rfl ?_
    refine zn_callS (pc' := 22) (args := [.inl l1, .inl 0, .inl 9999]) (st := []) (st' := fun r2 => [.inl r2]) dX12_shelter_19 rfl cs_X12_214 ⟨rfl, rfl, by decide, by decide⟩ rfl rfl rfl (Nat.le_of_ble_eq_true rfl) (fun _ => rfl) h ?_
    intro r2 M3 h
    refine zr_if_ne (tgt := 27) (pc' := 25) dX12_shelter_22 rfl rfl h.1 (fun hc => ?_) (fun hc => ?_)
    · have h := h.2.1 hc
      refine zr_aload_n (pc' := 28) (i := 0) dX12_shelter_27 rfl rfl rfl ?_
      refine zr_get (pc' := 31) dX12_shelter_28 rfl ps_102 kd_102 fl_X12_139 kc_12 (gv_102_70 _) ?_
      refine zr_aload_n (pc' := 32) (i := 0) dX12_shelter_31 rfl rfl rfl ?_
      refine zr_get (pc' := 35) dX12_shelter_32 rfl ps_102 kd_102 fl_X12_414 kc_12 (gv_102_69 _) ?_
      refine zr_iconst (pc' := 36) dX12_shelter_35 rfl ?_
      refine zr_zast (pc' := 37) dX12_shelter_36 rfl ps_142 kd_142 (by decide) h.1.1 h.1.2 (Or.inl rfl) (fun M4 hM1 => ?_)
      have h := h.2 M4 hM1
      refine zr_aload_n (pc' := 38) (i := 0) dX12_shelter_37 rfl rfl rfl ?_
      refine zr_get (pc' := 41) dX12_shelter_38 rfl ps_102 kd_102 fl_X12_154 kc_12 (gv_102_75 _) ?_
      refine zr_aload_n (pc' := 42) (i := 0) dX12_shelter_41 rfl rfl rfl ?_
      refine zr_get (pc' := 45) dX12_shelter_42 rfl ps_102 kd_102 fl_X12_414 kc_12 (gv_102_69 _) ?_
      refine zr_iload_n (pc' := 46) (i := 1) dX12_shelter_45 rfl rfl rfl ?_
      refine zr_iast (pc' := 47) dX12_shelter_46 rfl ps_147 kd_147 (by decide) h.1.1 h.1.2 (fun M5 hM1 => ?_)
      have h := h.2 M5 hM1
      refine zr_aload_n (pc' := 48) (i := 0) dX12_shelter_47 rfl rfl rfl ?_
      refine zr_dup (pc' := 49) dX12_shelter_48 rfl rfl ?_
      refine zr_get (pc' := 52) dX12_shelter_49 rfl ps_102 kd_102 fl_X12_414 kc_12 (gv_102_69 _) ?_
      refine zr_iconst (pc' := 53) dX12_shelter_52 rfl ?_
      refine zr_iadd (pc' := 54) dX12_shelter_53 rfl ?_
      refine zr_put (pc' := 57) dX12_shelter_54 rfl ps_102 kd_102 fl_X12_414 kc_12 rfl nf_102_69 rfl trivial (fun M6 hM1 => ?_)
      have h := h M6 hM1
      refine zr_aload_n (pc' := 58) (i := 0) dX12_shelter_57 rfl rfl rfl ?_
      refine zr_get (pc' := 61) dX12_shelter_58 rfl ps_102 kd_102 fl_X12_414 kc_12 (gv_102_69 _) ?_
      refine zr_iconst (pc' := 62) dX12_shelter_61 rfl ?_
      refine zr_isub (pc' := 63) dX12_shelter_62 rfl ?_
      exact zr_ireturn dX12_shelter_63 rfl rfl trivial (Nat.le_refl _) (Nat.le_refl _) (And.intro rfl h)
    · have h := h.2.2 hc
      refine zr_iconst (pc' := 26) dX12_shelter_25 rfl ?_
      exact zr_ireturn dX12_shelter_26 rfl rfl trivial (Nat.le_refl _) (Nat.le_refl _) (And.intro rfl h)
set_option maxRecDepth 20000 in
theorem vcX12_isPlace {E : zE} {M : zM} {Q : Int → zM → Prop} (l1 : Int)
    (h : ((zR l1) ∧ ((l1 < 0 → Q 0 M) ∧ (0 ≤ l1 → ((zR l1 ∧ zR (M 102 69)) ∧ (((M 102 69) ≤ l1 → Q 0 M) ∧ (l1 < (M 102 69) → Q 1 M)))))))
    : zP E mX12_isPlace [.inr (.inr 102), .inl l1] M Q := by
  refine zP_of (by decide +kernel) rfl (Nat.le_of_ble_eq_true rfl) ?_
  show zA E zNN (0, 0) mX12_isPlace 0 [(0, .inr (.inr 102)), (1, .inl l1)] [] M (zQ Q)
  refine zr_iload_n (pc' := 1) (i := 1) dX12_isPlace_0 rfl rfl rfl ?_
  refine zr_if_lt (tgt := 16) (pc' := 4) dX12_isPlace_1 rfl rfl h.1 (fun hc => ?_) (fun hc => ?_)
  · have h := h.2.1 hc
    refine zr_iconst (pc' := 17) dX12_isPlace_16 rfl ?_
    exact zr_ireturn dX12_isPlace_17 rfl rfl (Or.inl rfl) (Nat.le_refl _) (Nat.le_refl _) (And.intro rfl h)
  · have h := h.2.2 hc
    refine zr_iload_n (pc' := 5) (i := 1) dX12_isPlace_4 rfl rfl rfl ?_
    refine zr_aload_n (pc' := 6) (i := 0) dX12_isPlace_5 rfl rfl rfl ?_
    refine zr_get (pc' := 9) dX12_isPlace_6 rfl ps_102 kd_102 fl_X12_414 kc_12 (gv_102_69 _) ?_
    refine zr_icmp_ge (tgt := 16) (pc' := 12) dX12_isPlace_9 rfl rfl h.1.1 h.1.2 (fun hc => ?_) (fun hc => ?_)
    · have h := h.2.1 hc
      refine zr_iconst (pc' := 17) dX12_isPlace_16 rfl ?_
      exact zr_ireturn dX12_isPlace_17 rfl rfl (Or.inl rfl) (Nat.le_refl _) (Nat.le_refl _) (And.intro rfl h)
    · have h := h.2.2 hc
      refine zr_iconst (pc' := 13) dX12_isPlace_12 rfl ?_
      refine zr_goto (pc' := 17) dX12_isPlace_13 rfl ?_
      exact zr_ireturn dX12_isPlace_17 rfl rfl (Or.inr rfl) (Nat.le_refl _) (Nat.le_refl _) (And.intro rfl h)
set_option maxRecDepth 20000 in
theorem vcX12_road {E : zE} {M : zM} {Q : Int → zM → Prop} (l1 l2 l3 l4 l5 l6 : Int)
    (h : (∀ M1, M1 = zup M 102 2 0 → ((zR (M1 102 76)) ∧ (((M1 102 76) = 14 → Q (-1) M1) ∧ (¬ (M1 102 76) = 14 → (zP E mX12_isPlace [.inr (.inr 102), .inl l1] M1 (fun r2 M3 => ((zR r2) ∧ ((r2 = 0 → Q (-1) M3) ∧ (¬ r2 = 0 → (zP E mX12_isPlace [.inr (.inr 102), .inl l2] M3 (fun r4 M5 => ((zR r4) ∧ ((r4 = 0 → Q (-1) M5) ∧ (¬ r4 = 0 → ((zR l1 ∧ zR l2) ∧ ((l1 = l2 → Q (-1) M5) ∧ (¬ l1 = l2 → (zP E mX12_isIn [.inl l3, .inl 1, .inl 5] M5 (fun r6 M7 => ((zR r6) ∧ ((r6 = 0 → Q (-1) M7) ∧ (¬ r6 = 0 → (zP E mX12_isIn [.inl l4, .inl 1, .inl 999] M7 (fun r8 M9 => ((zR r8) ∧ ((r8 = 0 → Q (-1) M9) ∧ (¬ r8 = 0 → (zP E mX12_isIn [.inl l5, .inl 1, .inl 6] M9 (fun r10 M11 => ((zR r10) ∧ ((r10 = 0 → Q (-1) M11) ∧ (¬ r10 = 0 → ((zR l6) ∧ ((l6 = (-1) → (0 ≤ M11 102 76 ∧ M11 102 76 < 14) ∧ (∀ M12, M12 = zup M11 148 ((M11 102 76).toNat) l1 → (0 ≤ M12 102 76 ∧ M12 102 76 < 14) ∧ (∀ M13, M13 = zup M12 149 ((M12 102 76).toNat) l2 → (0 ≤ M13 102 76 ∧ M13 102 76 < 14) ∧ (∀ M14, M14 = zup M13 150 ((M13 102 76).toNat) l3 → (0 ≤ M14 102 76 ∧ M14 102 76 < 14) ∧ (∀ M15, M15 = zup M14 151 ((M14 102 76).toNat) l4 → (0 ≤ M15 102 76 ∧ M15 102 76 < 14) ∧ (∀ M16, M16 = zup M15 152 ((M15 102 76).toNat) l5 → (0 ≤ M16 102 76 ∧ M16 102 76 < 14) ∧ (∀ M17, M17 = zup M16 153 ((M16 102 76).toNat) l6 → (∀ M18, M18 = zup M17 102 76 ((M17 102 76) + 1) → Q ((M18 102 76) - 1) M18)))))))) ∧ (¬ l6 = (-1) → (zP E mX12_isCell [.inr (.inr 102), .inl l6] M11 (fun r19 M20 => ((zR r19) ∧ ((¬ r19 = 0 → (0 ≤ M20 102 76 ∧ M20 102 76 < 14) ∧ (∀ M21, M21 = zup M20 148 ((M20 102 76).toNat) l1 → (0 ≤ M21 102 76 ∧ M21 102 76 < 14) ∧ (∀ M22, M22 = zup M21 149 ((M21 102 76).toNat) l2 → (0 ≤ M22 102 76 ∧ M22 102 76 < 14) ∧ (∀ M23, M23 = zup M22 150 ((M22 102 76).toNat) l3 → (0 ≤ M23 102 76 ∧ M23 102 76 < 14) ∧ (∀ M24, M24 = zup M23 151 ((M23 102 76).toNat) l4 → (0 ≤ M24 102 76 ∧ M24 102 76 < 14) ∧ (∀ M25, M25 = zup M24 152 ((M24 102 76).toNat) l5 → (0 ≤ M25 102 76 ∧ M25 102 76 < 14) ∧ (∀ M26, M26 = zup M25 153 ((M25 102 76).toNat) l6 → (∀ M27, M27 = zup M26 102 76 ((M26 102 76) + 1) → Q ((M27 102 76) - 1) M27)))))))) ∧ (r19 = 0 → Q (-1) M20)))))))))))))))))))))))))))))))))))))))))
    : zP E mX12_road [.inr (.inr 102), .inl l1, .inl l2, .inl l3, .inl l4, .inl l5, .inl l6] M Q := by
  refine zP_of (by decide +kernel) rfl (Nat.le_of_ble_eq_true rfl) ?_
  show zA E zNN (0, 0) mX12_road 0 [(0, .inr (.inr 102)), (1, .inl l1), (2, .inl l2), (3, .inl l3), (4, .inl l4), (5, .inl l5), (6, .inl l6)] [] M (zQ Q)
  refine zr_aload_n (pc' := 1) (i := 0) dX12_road_0 rfl rfl rfl ?_
  refine zr_iconst (pc' := 2) dX12_road_1 rfl ?_
  refine zr_put (pc' := 5) dX12_road_2 rfl ps_102 kd_102 fl_X12_208 kc_12 rfl nf_102_2 rfl trivial (fun M1 hM1 => ?_)
  have h := h M1 hM1
  refine zr_aload_n (pc' := 6) (i := 0) dX12_road_5 rfl rfl rfl ?_
  refine zr_get (pc' := 9) dX12_road_6 rfl ps_102 kd_102 fl_X12_417 kc_12 (gv_102_76 _) ?_
  refine zr_bipush (pc' := 11) dX12_road_9 rfl rfl ?_
  refine zr_icmp_eq (tgt := 82) (pc' := 14) dX12_road_11 rfl rfl h.1 (zRd rfl) (fun hc => ?_) (fun hc => ?_)
  · have h := h.2.1 hc
    refine zr_iconst (pc' := 83) dX12_road_82 rfl ?_
    exact zr_ireturn dX12_road_83 rfl rfl trivial (Nat.le_refl _) (Nat.le_refl _) (And.intro rfl h)
  · have h := h.2.2 hc
    refine zr_aload_n (pc' := 15) (i := 0) dX12_road_14 rfl rfl rfl ?_
    refine zr_iload_n (pc' := 16) (i := 1) dX12_road_15 rfl rfl rfl ?_
    refine zn_callV (pc' := 19) (args := [.inl l1]) (st := []) (st' := fun r2 => [.inl r2]) dX12_road_16 rfl cv_X12_452 ⟨rfl, rfl, by decide, by decide⟩ rfl ps_102 kd_102 rfl rfl (Nat.le_of_ble_eq_true rfl) (fun _ => rfl) h ?_
    intro r2 M3 h
    refine zr_if_eq (tgt := 82) (pc' := 22) dX12_road_19 rfl rfl h.1 (fun hc => ?_) (fun hc => ?_)
    · have h := h.2.1 hc
      refine zr_iconst (pc' := 83) dX12_road_82 rfl ?_
      exact zr_ireturn dX12_road_83 rfl rfl trivial (Nat.le_refl _) (Nat.le_refl _) (And.intro rfl h)
    · have h := h.2.2 hc
      refine zr_aload_n (pc' := 23) (i := 0) dX12_road_22 rfl rfl rfl ?_
      refine zr_iload_n (pc' := 24) (i := 2) dX12_road_23 rfl rfl rfl ?_
      refine zn_callV (pc' := 27) (args := [.inl l2]) (st := []) (st' := fun r4 => [.inl r4]) dX12_road_24 rfl cv_X12_452 ⟨rfl, rfl, by decide, by decide⟩ rfl ps_102 kd_102 rfl rfl (Nat.le_of_ble_eq_true rfl) (fun _ => rfl) h ?_
      intro r4 M5 h
      refine zr_if_eq (tgt := 82) (pc' := 30) dX12_road_27 rfl rfl h.1 (fun hc => ?_) (fun hc => ?_)
      · have h := h.2.1 hc
        refine zr_iconst (pc' := 83) dX12_road_82 rfl ?_
        exact zr_ireturn dX12_road_83 rfl rfl trivial (Nat.le_refl _) (Nat.le_refl _) (And.intro rfl h)
      · have h := h.2.2 hc
        refine zr_iload_n (pc' := 31) (i := 1) dX12_road_30 rfl rfl rfl ?_
        refine zr_iload_n (pc' := 32) (i := 2) dX12_road_31 rfl rfl rfl ?_
        refine zr_icmp_eq (tgt := 82) (pc' := 35) dX12_road_32 rfl rfl h.1.1 h.1.2 (fun hc => ?_) (fun hc => ?_)
        · have h := h.2.1 hc
          refine zr_iconst (pc' := 83) dX12_road_82 rfl ?_
          exact zr_ireturn dX12_road_83 rfl rfl trivial (Nat.le_refl _) (Nat.le_refl _) (And.intro rfl h)
        · have h := h.2.2 hc
          refine zr_iload_n (pc' := 36) (i := 3) dX12_road_35 rfl rfl rfl ?_
          refine zr_iconst (pc' := 37) dX12_road_36 rfl ?_
          refine zr_iconst (pc' := 38) dX12_road_37 rfl ?_
          refine zn_callS (pc' := 41) (args := [.inl l3, .inl 1, .inl 5]) (st := []) (st' := fun r6 => [.inl r6]) dX12_road_38 rfl cs_X12_214 ⟨rfl, rfl, by decide, by decide⟩ rfl rfl rfl (Nat.le_of_ble_eq_true rfl) (fun _ => rfl) h ?_
          intro r6 M7 h
          refine zr_if_eq (tgt := 82) (pc' := 44) dX12_road_41 rfl rfl h.1 (fun hc => ?_) (fun hc => ?_)
          · have h := h.2.1 hc
            refine zr_iconst (pc' := 83) dX12_road_82 rfl ?_
            exact zr_ireturn dX12_road_83 rfl rfl trivial (Nat.le_refl _) (Nat.le_refl _) (And.intro rfl h)
          · have h := h.2.2 hc
            refine zr_iload (pc' := 46) dX12_road_44 rfl rfl ?_
            refine zr_iconst (pc' := 47) dX12_road_46 rfl ?_
            refine zr_sipush (pc' := 50) dX12_road_47 rfl rfl ?_
            refine zn_callS (pc' := 53) (args := [.inl l4, .inl 1, .inl 999]) (st := []) (st' := fun r8 => [.inl r8]) dX12_road_50 rfl cs_X12_214 ⟨rfl, rfl, by decide, by decide⟩ rfl rfl rfl (Nat.le_of_ble_eq_true rfl) (fun _ => rfl) h ?_
            intro r8 M9 h
            refine zr_if_eq (tgt := 82) (pc' := 56) dX12_road_53 rfl rfl h.1 (fun hc => ?_) (fun hc => ?_)
            · have h := h.2.1 hc
              refine zr_iconst (pc' := 83) dX12_road_82 rfl ?_
              exact zr_ireturn dX12_road_83 rfl rfl trivial (Nat.le_refl _) (Nat.le_refl _) (And.intro rfl h)
            · have h := h.2.2 hc
              refine zr_iload (pc' := 58) dX12_road_56 rfl rfl ?_
              refine zr_iconst (pc' := 59) dX12_road_58 rfl ?_
              refine zr_bipush (pc' := 61) dX12_road_59 rfl rfl ?_
              refine zn_callS (pc' := 64) (args := [.inl l5, .inl 1, .inl 6]) (st := []) (st' := fun r10 => [.inl r10]) dX12_road_61 rfl cs_X12_214 ⟨rfl, rfl, by decide, by decide⟩ rfl rfl rfl (Nat.le_of_ble_eq_true rfl) (fun _ => rfl) h ?_
              intro r10 M11 h
              refine zr_if_eq (tgt := 82) (pc' := 67) dX12_road_64 rfl rfl h.1 (fun hc => ?_) (fun hc => ?_)
              · have h := h.2.1 hc
                refine zr_iconst (pc' := 83) dX12_road_82 rfl ?_
                exact zr_ireturn dX12_road_83 rfl rfl trivial (Nat.le_refl _) (Nat.le_refl _) (And.intro rfl h)
              · have h := h.2.2 hc
                refine zr_iload (pc' := 69) dX12_road_67 rfl rfl ?_
                refine zr_iconst (pc' := 70) dX12_road_69 rfl ?_
                refine zr_icmp_eq (tgt := 84) (pc' := 73) dX12_road_70 rfl rfl h.1 (zRd rfl) (fun hc => ?_) (fun hc => ?_)
                · have h := h.2.1 hc
                  refine zr_aload_n (pc' := 85) (i := 0) dX12_road_84 rfl rfl rfl ?_
                  refine zr_get (pc' := 88) dX12_road_85 rfl ps_102 kd_102 fl_X12_157 kc_12 (gv_102_77 _) ?_
                  refine zr_aload_n (pc' := 89) (i := 0) dX12_road_88 rfl rfl rfl ?_
                  refine zr_get (pc' := 92) dX12_road_89 rfl ps_102 kd_102 fl_X12_417 kc_12 (gv_102_76 _) ?_
                  refine zr_iload_n (pc' := 93) (i := 1) dX12_road_92 rfl rfl rfl ?_
                  refine zr_iast (pc' := 94) dX12_road_93 rfl ps_148 kd_148 (by decide) h.1.1 h.1.2 (fun M12 hM1 => ?_)
                  have h := h.2 M12 hM1
                  refine zr_aload_n (pc' := 95) (i := 0) dX12_road_94 rfl rfl rfl ?_
                  refine zr_get (pc' := 98) dX12_road_95 rfl ps_102 kd_102 fl_X12_160 kc_12 (gv_102_78 _) ?_
                  refine zr_aload_n (pc' := 99) (i := 0) dX12_road_98 rfl rfl rfl ?_
                  refine zr_get (pc' := 102) dX12_road_99 rfl ps_102 kd_102 fl_X12_417 kc_12 (gv_102_76 _) ?_
                  refine zr_iload_n (pc' := 103) (i := 2) dX12_road_102 rfl rfl rfl ?_
                  refine zr_iast (pc' := 104) dX12_road_103 rfl ps_149 kd_149 (by decide) h.1.1 h.1.2 (fun M13 hM1 => ?_)
                  have h := h.2 M13 hM1
                  refine zr_aload_n (pc' := 105) (i := 0) dX12_road_104 rfl rfl rfl ?_
                  refine zr_get (pc' := 108) dX12_road_105 rfl ps_102 kd_102 fl_X12_163 kc_12 (gv_102_79 _) ?_
                  refine zr_aload_n (pc' := 109) (i := 0) dX12_road_108 rfl rfl rfl ?_
                  refine zr_get (pc' := 112) dX12_road_109 rfl ps_102 kd_102 fl_X12_417 kc_12 (gv_102_76 _) ?_
                  refine zr_iload_n (pc' := 113) (i := 3) dX12_road_112 rfl rfl rfl ?_
                  refine zr_iast (pc' := 114) dX12_road_113 rfl ps_150 kd_150 (by decide) h.1.1 h.1.2 (fun M14 hM1 => ?_)
                  have h := h.2 M14 hM1
                  refine zr_aload_n (pc' := 115) (i := 0) dX12_road_114 rfl rfl rfl ?_
                  refine zr_get (pc' := 118) dX12_road_115 rfl ps_102 kd_102 fl_X12_166 kc_12 (gv_102_80 _) ?_
                  refine zr_aload_n (pc' := 119) (i := 0) dX12_road_118 rfl rfl rfl ?_
                  refine zr_get (pc' := 122) dX12_road_119 rfl ps_102 kd_102 fl_X12_417 kc_12 (gv_102_76 _) ?_
                  refine zr_iload (pc' := 124) dX12_road_122 rfl rfl ?_
                  refine zr_iast (pc' := 125) dX12_road_124 rfl ps_151 kd_151 (by decide) h.1.1 h.1.2 (fun M15 hM1 => ?_)
                  have h := h.2 M15 hM1
                  refine zr_aload_n (pc' := 126) (i := 0) dX12_road_125 rfl rfl rfl ?_
                  refine zr_get (pc' := 129) dX12_road_126 rfl ps_102 kd_102 fl_X12_169 kc_12 (gv_102_81 _) ?_
                  refine zr_aload_n (pc' := 130) (i := 0) dX12_road_129 rfl rfl rfl ?_
                  refine zr_get (pc' := 133) dX12_road_130 rfl ps_102 kd_102 fl_X12_417 kc_12 (gv_102_76 _) ?_
                  refine zr_iload (pc' := 135) dX12_road_133 rfl rfl ?_
                  refine zr_iast (pc' := 136) dX12_road_135 rfl ps_152 kd_152 (by decide) h.1.1 h.1.2 (fun M16 hM1 => ?_)
                  have h := h.2 M16 hM1
                  refine zr_aload_n (pc' := 137) (i := 0) dX12_road_136 rfl rfl rfl ?_
                  refine zr_get (pc' := 140) dX12_road_137 rfl ps_102 kd_102 fl_X12_172 kc_12 (gv_102_82 _) ?_
                  refine zr_aload_n (pc' := 141) (i := 0) dX12_road_140 rfl rfl rfl ?_
                  refine zr_get (pc' := 144) dX12_road_141 rfl ps_102 kd_102 fl_X12_417 kc_12 (gv_102_76 _) ?_
                  refine zr_iload (pc' := 146) dX12_road_144 rfl rfl ?_
                  refine zr_iast (pc' := 147) dX12_road_146 rfl ps_153 kd_153 (by decide) h.1.1 h.1.2 (fun M17 hM1 => ?_)
                  have h := h.2 M17 hM1
                  refine zr_aload_n (pc' := 148) (i := 0) dX12_road_147 rfl rfl rfl ?_
                  refine zr_dup (pc' := 149) dX12_road_148 rfl rfl ?_
                  refine zr_get (pc' := 152) dX12_road_149 rfl ps_102 kd_102 fl_X12_417 kc_12 (gv_102_76 _) ?_
                  refine zr_iconst (pc' := 153) dX12_road_152 rfl ?_
                  refine zr_iadd (pc' := 154) dX12_road_153 rfl ?_
                  refine zr_put (pc' := 157) dX12_road_154 rfl ps_102 kd_102 fl_X12_417 kc_12 rfl nf_102_76 rfl trivial (fun M18 hM1 => ?_)
                  have h := h M18 hM1
                  refine zr_aload_n (pc' := 158) (i := 0) dX12_road_157 rfl rfl rfl ?_
                  refine zr_get (pc' := 161) dX12_road_158 rfl ps_102 kd_102 fl_X12_417 kc_12 (gv_102_76 _) ?_
                  refine zr_iconst (pc' := 162) dX12_road_161 rfl ?_
                  refine zr_isub (pc' := 163) dX12_road_162 rfl ?_
                  exact zr_ireturn dX12_road_163 rfl rfl trivial (Nat.le_refl _) (Nat.le_refl _) (And.intro rfl h)
                · have h := h.2.2 hc
                  refine zr_aload_n (pc' := 74) (i := 0) dX12_road_73 rfl rfl rfl ?_
                  refine zr_iload (pc' := 76) dX12_road_74 rfl rfl ?_
                  refine zn_callV (pc' := 79) (args := [.inl l6]) (st := []) (st' := fun r19 => [.inl r19]) dX12_road_76 rfl cv_X12_423 ⟨rfl, rfl, by decide, by decide⟩ rfl ps_102 kd_102 rfl rfl (Nat.le_of_ble_eq_true rfl) (fun _ => rfl) h ?_
                  intro r19 M20 h
                  refine zr_if_ne (tgt := 84) (pc' := 82) dX12_road_79 rfl rfl h.1 (fun hc => ?_) (fun hc => ?_)
                  · have h := h.2.1 hc
                    refine zr_aload_n (pc' := 85) (i := 0) dX12_road_84 rfl rfl rfl ?_
                    refine zr_get (pc' := 88) dX12_road_85 rfl ps_102 kd_102 fl_X12_157 kc_12 (gv_102_77 _) ?_
                    refine zr_aload_n (pc' := 89) (i := 0) dX12_road_88 rfl rfl rfl ?_
                    refine zr_get (pc' := 92) dX12_road_89 rfl ps_102 kd_102 fl_X12_417 kc_12 (gv_102_76 _) ?_
                    refine zr_iload_n (pc' := 93) (i := 1) dX12_road_92 rfl rfl rfl ?_
                    refine zr_iast (pc' := 94) dX12_road_93 rfl ps_148 kd_148 (by decide) h.1.1 h.1.2 (fun M21 hM1 => ?_)
                    have h := h.2 M21 hM1
                    refine zr_aload_n (pc' := 95) (i := 0) dX12_road_94 rfl rfl rfl ?_
                    refine zr_get (pc' := 98) dX12_road_95 rfl ps_102 kd_102 fl_X12_160 kc_12 (gv_102_78 _) ?_
                    refine zr_aload_n (pc' := 99) (i := 0) dX12_road_98 rfl rfl rfl ?_
                    refine zr_get (pc' := 102) dX12_road_99 rfl ps_102 kd_102 fl_X12_417 kc_12 (gv_102_76 _) ?_
                    refine zr_iload_n (pc' := 103) (i := 2) dX12_road_102 rfl rfl rfl ?_
                    refine zr_iast (pc' := 104) dX12_road_103 rfl ps_149 kd_149 (by decide) h.1.1 h.1.2 (fun M22 hM1 => ?_)
                    have h := h.2 M22 hM1
                    refine zr_aload_n (pc' := 105) (i := 0) dX12_road_104 rfl rfl rfl ?_
                    refine zr_get (pc' := 108) dX12_road_105 rfl ps_102 kd_102 fl_X12_163 kc_12 (gv_102_79 _) ?_
                    refine zr_aload_n (pc' := 109) (i := 0) dX12_road_108 rfl rfl rfl ?_
                    refine zr_get (pc' := 112) dX12_road_109 rfl ps_102 kd_102 fl_X12_417 kc_12 (gv_102_76 _) ?_
                    refine zr_iload_n (pc' := 113) (i := 3) dX12_road_112 rfl rfl rfl ?_
                    refine zr_iast (pc' := 114) dX12_road_113 rfl ps_150 kd_150 (by decide) h.1.1 h.1.2 (fun M23 hM1 => ?_)
                    have h := h.2 M23 hM1
                    refine zr_aload_n (pc' := 115) (i := 0) dX12_road_114 rfl rfl rfl ?_
                    refine zr_get (pc' := 118) dX12_road_115 rfl ps_102 kd_102 fl_X12_166 kc_12 (gv_102_80 _) ?_
                    refine zr_aload_n (pc' := 119) (i := 0) dX12_road_118 rfl rfl rfl ?_
                    refine zr_get (pc' := 122) dX12_road_119 rfl ps_102 kd_102 fl_X12_417 kc_12 (gv_102_76 _) ?_
                    refine zr_iload (pc' := 124) dX12_road_122 rfl rfl ?_
                    refine zr_iast (pc' := 125) dX12_road_124 rfl ps_151 kd_151 (by decide) h.1.1 h.1.2 (fun M24 hM1 => ?_)
                    have h := h.2 M24 hM1
                    refine zr_aload_n (pc' := 126) (i := 0) dX12_road_125 rfl rfl rfl ?_
                    refine zr_get (pc' := 129) dX12_road_126 rfl ps_102 kd_102 fl_X12_169 kc_12 (gv_102_81 _) ?_
                    refine zr_aload_n (pc' := 130) (i := 0) dX12_road_129 rfl rfl rfl ?_
                    refine zr_get (pc' := 133) dX12_road_130 rfl ps_102 kd_102 fl_X12_417 kc_12 (gv_102_76 _) ?_
                    refine zr_iload (pc' := 135) dX12_road_133 rfl rfl ?_
                    refine zr_iast (pc' := 136) dX12_road_135 rfl ps_152 kd_152 (by decide) h.1.1 h.1.2 (fun M25 hM1 => ?_)
                    have h := h.2 M25 hM1
                    refine zr_aload_n (pc' := 137) (i := 0) dX12_road_136 rfl rfl rfl ?_
                    refine zr_get (pc' := 140) dX12_road_137 rfl ps_102 kd_102 fl_X12_172 kc_12 (gv_102_82 _) ?_
                    refine zr_aload_n (pc' := 141) (i := 0) dX12_road_140 rfl rfl rfl ?_
                    refine zr_get (pc' := 144) dX12_road_141 rfl ps_102 kd_102 fl_X12_417 kc_12 (gv_102_76 _) ?_
                    refine zr_iload (pc' := 146) dX12_road_144 rfl rfl ?_
                    refine zr_iast (pc' := 147) dX12_road_146 rfl ps_153 kd_153 (by decide) h.1.1 h.1.2 (fun M26 hM1 => ?_)
                    have h := h.2 M26 hM1
                    refine zr_aload_n (pc' := 148) (i := 0) dX12_road_147 rfl rfl rfl ?_
                    refine zr_dup (pc' := 149) dX12_road_148 rfl rfl ?_
                    refine zr_get (pc' := 152) dX12_road_149 rfl ps_102 kd_102 fl_X12_417 kc_12 (gv_102_76 _) ?_
                    refine zr_iconst (pc' := 153) dX12_road_152 rfl ?_
                    refine zr_iadd (pc' := 154) dX12_road_153 rfl ?_
                    refine zr_put (pc' := 157) dX12_road_154 rfl ps_102 kd_102 fl_X12_417 kc_12 rfl nf_102_76 rfl trivial (fun M27 hM1 => ?_)
                    have h := h M27 hM1
                    refine zr_aload_n (pc' := 158) (i := 0) dX12_road_157 rfl rfl rfl ?_
                    refine zr_get (pc' := 161) dX12_road_158 rfl ps_102 kd_102 fl_X12_417 kc_12 (gv_102_76 _) ?_
                    refine zr_iconst (pc' := 162) dX12_road_161 rfl ?_
                    refine zr_isub (pc' := 163) dX12_road_162 rfl ?_
                    exact zr_ireturn dX12_road_163 rfl rfl trivial (Nat.le_refl _) (Nat.le_refl _) (And.intro rfl h)
                  · have h := h.2.2 hc
                    refine zr_iconst (pc' := 83) dX12_road_82 rfl ?_
                    exact zr_ireturn dX12_road_83 rfl rfl trivial (Nat.le_refl _) (Nat.le_refl _) (And.intro rfl h)
