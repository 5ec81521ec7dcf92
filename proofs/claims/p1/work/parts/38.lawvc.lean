theorem cv_L_21 : zCv RL 21 mX11_feed 11 5 := ⟨RX11, TX11, 18, rfl, by decide, rfl, zi 3 51 rfl rfl, zi 3 52 rfl rfl, zi 3 53 rfl rfl, zi 1 1 rfl rfl, zi 3 54 rfl rfl, by decide +kernel, by decide +kernel, by decide +kernel⟩
theorem cv_L_25 : zCv RL 25 mX12_feed 12 5 := ⟨RX12, TX12, 107, rfl, by decide, rfl, zi 7 193 rfl rfl, zi 7 194 rfl rfl, zi 7 195 rfl rfl, zi 1 14 rfl rfl, zi 7 196 rfl rfl, by decide +kernel, by decide +kernel, by decide +kernel⟩
theorem cv_L_26 : zCv RL 26 mX11_rules 11 1 := ⟨RX11, TX11, 18, rfl, by decide, rfl, zi 3 63 rfl rfl, zi 3 64 rfl rfl, zi 3 65 rfl rfl, zi 1 1 rfl rfl, zi 3 66 rfl rfl, by decide +kernel, by decide +kernel, by decide +kernel⟩
theorem cv_L_30 : zCv RL 30 mX12_rules 12 1 := ⟨RX12, TX12, 107, rfl, by decide, rfl, zi 7 227 rfl rfl, zi 7 228 rfl rfl, zi 7 229 rfl rfl, zi 1 14 rfl rfl, zi 7 230 rfl rfl, by decide +kernel, by decide +kernel, by decide +kernel⟩
theorem cv_L_31 : zCv RL 31 mX11_fault 11 1 := ⟨RX11, TX11, 18, rfl, by decide, rfl, zi 4 14 rfl rfl, zi 4 15 rfl rfl, zi 4 16 rfl rfl, zi 1 1 rfl rfl, zi 4 17 rfl rfl, by decide +kernel, by decide +kernel, by decide +kernel⟩
theorem cv_L_34 : zCv RL 34 mX12_fault 12 1 := ⟨RX12, TX12, 107, rfl, by decide, rfl, zi 8 83 rfl rfl, zi 8 84 rfl rfl, zi 8 85 rfl rfl, zi 1 14 rfl rfl, zi 8 86 rfl rfl, by decide +kernel, by decide +kernel, by decide +kernel⟩
theorem cv_L_35 : zCv RL 35 mX11_hours 11 1 := ⟨RX11, TX11, 18, rfl, by decide, rfl, zi 4 18 rfl rfl, zi 4 19 rfl rfl, zi 4 20 rfl rfl, zi 1 1 rfl rfl, zi 4 21 rfl rfl, by decide +kernel, by decide +kernel, by decide +kernel⟩
theorem cv_L_38 : zCv RL 38 mX12_hours 12 1 := ⟨RX12, TX12, 107, rfl, by decide, rfl, zi 7 197 rfl rfl, zi 7 198 rfl rfl, zi 7 199 rfl rfl, zi 1 14 rfl rfl, zi 7 200 rfl rfl, by decide +kernel, by decide +kernel, by decide +kernel⟩
theorem cv_L_39 : zCv RL 39 mX11_post 11 1 := ⟨RX11, TX11, 18, rfl, by decide, rfl, zi 4 23 rfl rfl, zi 4 24 rfl rfl, zi 4 25 rfl rfl, zi 1 1 rfl rfl, zi 4 26 rfl rfl, by decide +kernel, by decide +kernel, by decide +kernel⟩
theorem cv_L_42 : zCv RL 42 mX12_post 12 1 := ⟨RX12, TX12, 107, rfl, by decide, rfl, zi 7 204 rfl rfl, zi 7 205 rfl rfl, zi 7 206 rfl rfl, zi 1 14 rfl rfl, zi 7 207 rfl rfl, by decide +kernel, by decide +kernel, by decide +kernel⟩
theorem cv_L_43 : zCv RL 43 mX11_read 11 4 := ⟨RX11, TX11, 18, rfl, by decide, rfl, zi 4 32 rfl rfl, zi 4 33 rfl rfl, zi 4 34 rfl rfl, zi 1 1 rfl rfl, zi 4 35 rfl rfl, by decide +kernel, by decide +kernel, by decide +kernel⟩
theorem cv_L_47 : zCv RL 47 mX12_read 12 4 := ⟨RX12, TX12, 107, rfl, by decide, rfl, zi 7 208 rfl rfl, zi 7 209 rfl rfl, zi 7 210 rfl rfl, zi 1 14 rfl rfl, zi 7 211 rfl rfl, by decide +kernel, by decide +kernel, by decide +kernel⟩
theorem cv_L_48 : zCv RL 48 mX11_reading 11 3 := ⟨RX11, TX11, 18, rfl, by decide, rfl, zi 4 47 rfl rfl, zi 4 48 rfl rfl, zi 4 49 rfl rfl, zi 1 1 rfl rfl, zi 4 50 rfl rfl, by decide +kernel, by decide +kernel, by decide +kernel⟩
theorem cv_L_52 : zCv RL 52 mX12_reading 12 3 := ⟨RX12, TX12, 107, rfl, by decide, rfl, zi 7 216 rfl rfl, zi 7 217 rfl rfl, zi 7 218 rfl rfl, zi 1 14 rfl rfl, zi 7 219 rfl rfl, by decide +kernel, by decide +kernel, by decide +kernel⟩
theorem cv_L_53 : zCv RL 53 mX11_raw 11 2 := ⟨RX11, TX11, 18, rfl, by decide, rfl, zi 4 57 rfl rfl, zi 4 58 rfl rfl, zi 4 59 rfl rfl, zi 1 1 rfl rfl, zi 4 60 rfl rfl, by decide +kernel, by decide +kernel, by decide +kernel⟩
theorem cv_L_56 : zCv RL 56 mX12_raw 12 2 := ⟨RX12, TX12, 107, rfl, by decide, rfl, zi 8 87 rfl rfl, zi 8 88 rfl rfl, zi 8 89 rfl rfl, zi 1 14 rfl rfl, zi 8 90 rfl rfl, by decide +kernel, by decide +kernel, by decide +kernel⟩
theorem cv_L_57 : zCv RL 57 mX11_tries 11 3 := ⟨RX11, TX11, 18, rfl, by decide, rfl, zi 4 112 rfl rfl, zi 4 113 rfl rfl, zi 4 114 rfl rfl, zi 1 1 rfl rfl, zi 4 115 rfl rfl, by decide +kernel, by decide +kernel, by decide +kernel⟩
theorem cv_L_61 : zCv RL 61 mX12_tries 12 3 := ⟨RX12, TX12, 107, rfl, by decide, rfl, zi 8 117 rfl rfl, zi 8 118 rfl rfl, zi 8 119 rfl rfl, zi 1 14 rfl rfl, zi 8 120 rfl rfl, by decide +kernel, by decide +kernel, by decide +kernel⟩
theorem cv_L_62 : zCv RL 62 mX11_level 11 1 := ⟨RX11, TX11, 18, rfl, by decide, rfl, zi 4 118 rfl rfl, zi 4 119 rfl rfl, zi 4 120 rfl rfl, zi 1 1 rfl rfl, zi 4 121 rfl rfl, by decide +kernel, by decide +kernel, by decide +kernel⟩
theorem cv_L_65 : zCv RL 65 mX12_level 12 1 := ⟨RX12, TX12, 107, rfl, by decide, rfl, zi 8 121 rfl rfl, zi 8 122 rfl rfl, zi 8 123 rfl rfl, zi 1 14 rfl rfl, zi 8 124 rfl rfl, by decide +kernel, by decide +kernel, by decide +kernel⟩
theorem cv_L_66 : zCv RL 66 mX11_land 11 2 := ⟨RX11, TX11, 18, rfl, by decide, rfl, zi 4 127 rfl rfl, zi 4 128 rfl rfl, zi 4 129 rfl rfl, zi 1 1 rfl rfl, zi 4 130 rfl rfl, by decide +kernel, by decide +kernel, by decide +kernel⟩
theorem cv_L_70 : zCv RL 70 mX12_land 12 2 := ⟨RX12, TX12, 107, rfl, by decide, rfl, zi 8 129 rfl rfl, zi 8 130 rfl rfl, zi 8 131 rfl rfl, zi 1 14 rfl rfl, zi 8 132 rfl rfl, by decide +kernel, by decide +kernel, by decide +kernel⟩
theorem cv_L_71 : zCv RL 71 mX11_ground 11 3 := ⟨RX11, TX11, 18, rfl, by decide, rfl, zi 4 145 rfl rfl, zi 4 146 rfl rfl, zi 4 147 rfl rfl, zi 1 1 rfl rfl, zi 4 148 rfl rfl, by decide +kernel, by decide +kernel, by decide +kernel⟩
theorem cv_L_75 : zCv RL 75 mX12_ground 12 3 := ⟨RX12, TX12, 107, rfl, by decide, rfl, zi 8 133 rfl rfl, zi 8 134 rfl rfl, zi 8 135 rfl rfl, zi 1 14 rfl rfl, zi 8 136 rfl rfl, by decide +kernel, by decide +kernel, by decide +kernel⟩
theorem cv_L_76 : zCv RL 76 mX11_work 11 3 := ⟨RX11, TX11, 18, rfl, by decide, rfl, zi 4 157 rfl rfl, zi 4 158 rfl rfl, zi 4 159 rfl rfl, zi 1 1 rfl rfl, zi 4 160 rfl rfl, by decide +kernel, by decide +kernel, by decide +kernel⟩
theorem cv_L_80 : zCv RL 80 mX12_work 12 3 := ⟨RX12, TX12, 107, rfl, by decide, rfl, zi 8 141 rfl rfl, zi 8 142 rfl rfl, zi 8 143 rfl rfl, zi 1 14 rfl rfl, zi 8 144 rfl rfl, by decide +kernel, by decide +kernel, by decide +kernel⟩
theorem cv_L_81 : zCv RL 81 mX11_world 11 5 := ⟨RX11, TX11, 18, rfl, by decide, rfl, zi 4 177 rfl rfl, zi 4 178 rfl rfl, zi 4 179 rfl rfl, zi 1 1 rfl rfl, zi 4 180 rfl rfl, by decide +kernel, by decide +kernel, by decide +kernel⟩
theorem cv_L_84 : zCv RL 84 mX12_world 12 5 := ⟨RX12, TX12, 107, rfl, by decide, rfl, zi 8 157 rfl rfl, zi 8 158 rfl rfl, zi 8 159 rfl rfl, zi 1 14 rfl rfl, zi 8 160 rfl rfl, by decide +kernel, by decide +kernel, by decide +kernel⟩
theorem cv_L_85 : zCv RL 85 mX11_lava 11 4 := ⟨RX11, TX11, 18, rfl, by decide, rfl, zi 4 182 rfl rfl, zi 4 183 rfl rfl, zi 4 184 rfl rfl, zi 1 1 rfl rfl, zi 4 185 rfl rfl, by decide +kernel, by decide +kernel, by decide +kernel⟩
theorem cv_L_89 : zCv RL 89 mX12_lava 12 4 := ⟨RX12, TX12, 107, rfl, by decide, rfl, zi 8 161 rfl rfl, zi 8 162 rfl rfl, zi 8 163 rfl rfl, zi 1 14 rfl rfl, zi 8 164 rfl rfl, by decide +kernel, by decide +kernel, by decide +kernel⟩
theorem cv_L_90 : zCv RL 90 mX11_reached 11 2 := ⟨RX11, TX11, 18, rfl, by decide, rfl, zi 4 239 rfl rfl, zi 5 0 rfl rfl, zi 5 1 rfl rfl, zi 1 1 rfl rfl, zi 5 2 rfl rfl, by decide +kernel, by decide +kernel, by decide +kernel⟩
theorem cv_L_93 : zCv RL 93 mX12_reached 12 2 := ⟨RX12, TX12, 107, rfl, by decide, rfl, zi 8 185 rfl rfl, zi 8 186 rfl rfl, zi 8 187 rfl rfl, zi 1 14 rfl rfl, zi 8 188 rfl rfl, by decide +kernel, by decide +kernel, by decide +kernel⟩
theorem cv_L_94 : zCv RL 94 mX11_town 11 4 := ⟨RX11, TX11, 18, rfl, by decide, rfl, zi 5 3 rfl rfl, zi 5 4 rfl rfl, zi 5 5 rfl rfl, zi 1 1 rfl rfl, zi 5 6 rfl rfl, by decide +kernel, by decide +kernel, by decide +kernel⟩
theorem cv_L_97 : zCv RL 97 mX12_town 12 4 := ⟨RX12, TX12, 107, rfl, by decide, rfl, zi 8 189 rfl rfl, zi 8 190 rfl rfl, zi 8 191 rfl rfl, zi 1 14 rfl rfl, zi 8 192 rfl rfl, by decide +kernel, by decide +kernel, by decide +kernel⟩
theorem cv_L_98 : zCv RL 98 mX11_shelter 11 1 := ⟨RX11, TX11, 18, rfl, by decide, rfl, zi 5 11 rfl rfl, zi 5 12 rfl rfl, zi 5 13 rfl rfl, zi 1 1 rfl rfl, zi 5 14 rfl rfl, by decide +kernel, by decide +kernel, by decide +kernel⟩
theorem cv_L_101 : zCv RL 101 mX12_shelter 12 1 := ⟨RX12, TX12, 107, rfl, by decide, rfl, zi 8 193 rfl rfl, zi 8 194 rfl rfl, zi 8 195 rfl rfl, zi 1 14 rfl rfl, zi 8 196 rfl rfl, by decide +kernel, by decide +kernel, by decide +kernel⟩
theorem cv_L_102 : zCv RL 102 mX11_road 11 6 := ⟨RX11, TX11, 18, rfl, by decide, rfl, zi 5 20 rfl rfl, zi 5 21 rfl rfl, zi 5 22 rfl rfl, zi 1 1 rfl rfl, zi 5 23 rfl rfl, by decide +kernel, by decide +kernel, by decide +kernel⟩
theorem cv_L_106 : zCv RL 106 mX12_road 12 6 := ⟨RX12, TX12, 107, rfl, by decide, rfl, zi 8 197 rfl rfl, zi 8 198 rfl rfl, zi 8 199 rfl rfl, zi 1 14 rfl rfl, zi 8 200 rfl rfl, by decide +kernel, by decide +kernel, by decide +kernel⟩
theorem cv_L_107 : zCv RL 107 mX11_warned 11 1 := ⟨RX11, TX11, 18, rfl, by decide, rfl, zi 5 33 rfl rfl, zi 5 34 rfl rfl, zi 5 35 rfl rfl, zi 1 1 rfl rfl, zi 5 36 rfl rfl, by decide +kernel, by decide +kernel, by decide +kernel⟩
theorem cv_L_110 : zCv RL 110 mX12_warned 12 1 := ⟨RX12, TX12, 107, rfl, by decide, rfl, zi 8 205 rfl rfl, zi 8 206 rfl rfl, zi 8 207 rfl rfl, zi 1 14 rfl rfl, zi 8 208 rfl rfl, by decide +kernel, by decide +kernel, by decide +kernel⟩
theorem cv_L_111 : zCv RL 111 mX11_ledOut 11 2 := ⟨RX11, TX11, 18, rfl, by decide, rfl, zi 5 59 rfl rfl, zi 5 60 rfl rfl, zi 5 61 rfl rfl, zi 1 1 rfl rfl, zi 5 62 rfl rfl, by decide +kernel, by decide +kernel, by decide +kernel⟩
theorem cv_L_114 : zCv RL 114 mX12_ledOut 12 2 := ⟨RX12, TX12, 107, rfl, by decide, rfl, zi 8 217 rfl rfl, zi 8 218 rfl rfl, zi 8 219 rfl rfl, zi 1 14 rfl rfl, zi 8 220 rfl rfl, by decide +kernel, by decide +kernel, by decide +kernel⟩
theorem cv_L_115 : zCv RL 115 mX11_cut 11 3 := ⟨RX11, TX11, 18, rfl, by decide, rfl, zi 5 158 rfl rfl, zi 5 159 rfl rfl, zi 5 160 rfl rfl, zi 1 1 rfl rfl, zi 5 161 rfl rfl, by decide +kernel, by decide +kernel, by decide +kernel⟩
theorem cv_L_118 : zCv RL 118 mX12_cut 12 3 := ⟨RX12, TX12, 107, rfl, by decide, rfl, zi 9 31 rfl rfl, zi 9 32 rfl rfl, zi 9 33 rfl rfl, zi 1 14 rfl rfl, zi 9 34 rfl rfl, by decide +kernel, by decide +kernel, by decide +kernel⟩
theorem cv_L_119 : zCv RL 119 mX11_cost 11 1 := ⟨RX11, TX11, 18, rfl, by decide, rfl, zi 5 165 rfl rfl, zi 5 166 rfl rfl, zi 5 167 rfl rfl, zi 1 1 rfl rfl, zi 5 168 rfl rfl, by decide +kernel, by decide +kernel, by decide +kernel⟩
theorem cv_L_122 : zCv RL 122 mX12_cost 12 1 := ⟨RX12, TX12, 107, rfl, by decide, rfl, zi 9 35 rfl rfl, zi 9 36 rfl rfl, zi 9 37 rfl rfl, zi 1 14 rfl rfl, zi 9 38 rfl rfl, by decide +kernel, by decide +kernel, by decide +kernel⟩
theorem cv_L_123 : zCv RL 123 mX11_candidate 11 1 := ⟨RX11, TX11, 18, rfl, by decide, rfl, zi 5 177 rfl rfl, zi 5 178 rfl rfl, zi 5 179 rfl rfl, zi 1 1 rfl rfl, zi 5 180 rfl rfl, by decide +kernel, by decide +kernel, by decide +kernel⟩
theorem cv_L_126 : zCv RL 126 mX12_candidate 12 1 := ⟨RX12, TX12, 107, rfl, by decide, rfl, zi 9 43 rfl rfl, zi 9 44 rfl rfl, zi 9 45 rfl rfl, zi 1 14 rfl rfl, zi 9 46 rfl rfl, by decide +kernel, by decide +kernel, by decide +kernel⟩
theorem cv_L_127 : zCv RL 127 mX11_best 11 2 := ⟨RX11, TX11, 18, rfl, by decide, rfl, zi 5 185 rfl rfl, zi 5 186 rfl rfl, zi 5 187 rfl rfl, zi 1 1 rfl rfl, zi 5 188 rfl rfl, by decide +kernel, by decide +kernel, by decide +kernel⟩
theorem cv_L_130 : zCv RL 130 mX12_best 12 2 := ⟨RX12, TX12, 107, rfl, by decide, rfl, zi 9 47 rfl rfl, zi 9 48 rfl rfl, zi 9 49 rfl rfl, zi 1 14 rfl rfl, zi 9 50 rfl rfl, by decide +kernel, by decide +kernel, by decide +kernel⟩
theorem cv_L_131 : zCv RL 131 mX11_wind 11 3 := ⟨RX11, TX11, 18, rfl, by decide, rfl, zi 5 223 rfl rfl, zi 5 224 rfl rfl, zi 5 225 rfl rfl, zi 1 1 rfl rfl, zi 5 226 rfl rfl, by decide +kernel, by decide +kernel, by decide +kernel⟩
theorem cv_L_134 : zCv RL 134 mX12_wind 12 3 := ⟨RX12, TX12, 107, rfl, by decide, rfl, zi 9 63 rfl rfl, zi 9 64 rfl rfl, zi 9 65 rfl rfl, zi 1 14 rfl rfl, zi 9 66 rfl rfl, by decide +kernel, by decide +kernel, by decide +kernel⟩
theorem cv_L_135 : zCv RL 135 mX11_ash 11 2 := ⟨RX11, TX11, 18, rfl, by decide, rfl, zi 5 227 rfl rfl, zi 5 228 rfl rfl, zi 5 229 rfl rfl, zi 1 1 rfl rfl, zi 5 230 rfl rfl, by decide +kernel, by decide +kernel, by decide +kernel⟩
theorem cv_L_138 : zCv RL 138 mX12_ash 12 2 := ⟨RX12, TX12, 107, rfl, by decide, rfl, zi 9 67 rfl rfl, zi 9 68 rfl rfl, zi 9 69 rfl rfl, zi 1 14 rfl rfl, zi 9 70 rfl rfl, by decide +kernel, by decide +kernel, by decide +kernel⟩
theorem cv_L_144 : zCv RL 144 mX12_look 12 2 := ⟨RX12, TX12, 107, rfl, by decide, rfl, zi 9 77 rfl rfl, zi 9 78 rfl rfl, zi 9 79 rfl rfl, zi 1 14 rfl rfl, zi 9 80 rfl rfl, by decide +kernel, by decide +kernel, by decide +kernel⟩
theorem cv_L_145 : zCv RL 145 mX12_thrown 12 0 := ⟨RX12, TX12, 107, rfl, by decide, rfl, zi 7 189 rfl rfl, zi 7 190 rfl rfl, zi 7 191 rfl rfl, zi 1 14 rfl rfl, zi 7 192 rfl rfl, by decide +kernel, by decide +kernel, by decide +kernel⟩
theorem cv_L_149 : zCv RL 149 mX11_count 11 1 := ⟨RX11, TX11, 18, rfl, by decide, rfl, zi 6 6 rfl rfl, zi 6 7 rfl rfl, zi 6 8 rfl rfl, zi 1 1 rfl rfl, zi 6 9 rfl rfl, by decide +kernel, by decide +kernel, by decide +kernel⟩
theorem cv_L_152 : zCv RL 152 mX12_count 12 1 := ⟨RX12, TX12, 107, rfl, by decide, rfl, zi 9 85 rfl rfl, zi 9 86 rfl rfl, zi 9 87 rfl rfl, zi 1 14 rfl rfl, zi 9 88 rfl rfl, by decide +kernel, by decide +kernel, by decide +kernel⟩
section zl
variable {E : zE} {cu : Nat × Nat} {d : zD} {pc pc' : Nat} {al al' : List (Nat × zV)} {st : List zV} {M : zM} {Q : Int → zM → Prop}
theorem zl_callV {d2 : zD} {idx ci n kn : Nat} {b : Int} {args st0 : List zV} {Q' : Int → zM → Prop} {st' : Int → List zV} (hd : decode d.2.1 pc = .ok (.invokevirtual idx, 3)) (hp : pc + 3 = pc') (hw : zCv d.2.2.2.2.1 idx d2 ci n) (hR : zRm d d2) (hm : d2.2.2.2.2.2.2 = (0, 0)) (hb : 0 ≤ b) (hk : zNN.1[b.toNat]? = some (ci, kn)) (hn : args.length = n) (hst : args.reverse ++ .inr (.inr b) :: st = st0) (h8 : (st.map zcat).sum ≤ 8) (hr : ∀ r, zpu d2.2.2.2.1 r st = st' r) (h1 : cu.1 ≤ d.2.2.2.2.2.1.cells) (h2 : cu.2 ≤ d.2.2.2.2.2.1.slots)
    (hM : zP E d2 (.inr (.inr b) :: args) M Q') (k : ∀ r M', Q' r M' → zA E zNN cu d pc' al (st' r) M' (zQ Q)) : zA E zNN cu d pc al st0 M (zQ Q) := by
  refine zr_callV hd hp hw hR hb hk hn hst h8 ⟨?_, ?_⟩ hr (fun r N' M' h h2 => ?_) hM (fun r N' M' h => ?_)
  · rw [hm]; exact h1
  · rw [hm]; exact h2
  · rw [h.1] at h2; cases h2
  · obtain ⟨rfl, h⟩ := h
    rw [hm]
    exact k r M' h
theorem zl_lif_eq {x y off : Int} {tgt pc1 : Nat} (hd1 : decode d.2.1 pc = .ok (.lcmp, 1)) (hp1 : pc + 1 = pc1) (hd : decode d.2.1 pc1 = .ok (.ifCond .eq off, 3)) (ht : (pc1 : Int) + off = (tgt : Int)) (hp : pc1 + 3 = pc') (hx : zL x) (hy : zL y) (kt : x = y → zA E zNN cu d tgt al st M (zQ Q)) (kf : ¬ x = y → zA E zNN cu d pc' al st M (zQ Q)) : zA E zNN cu d pc al (.inr (.inl y) :: .inr (.inl x) :: st) M (zQ Q) := by
  refine zr_lcmp hd1 hp1 hx hy (zr_if_eq hd ht hp ?_ (fun h => kt ?_) (fun h => kf ?_))
  all_goals (unfold zR at *; split at * <;> try split at *) <;> omega
theorem zl_lif_ne {x y off : Int} {tgt pc1 : Nat} (hd1 : decode d.2.1 pc = .ok (.lcmp, 1)) (hp1 : pc + 1 = pc1) (hd : decode d.2.1 pc1 = .ok (.ifCond .ne off, 3)) (ht : (pc1 : Int) + off = (tgt : Int)) (hp : pc1 + 3 = pc') (hx : zL x) (hy : zL y) (kt : ¬ x = y → zA E zNN cu d tgt al st M (zQ Q)) (kf : x = y → zA E zNN cu d pc' al st M (zQ Q)) : zA E zNN cu d pc al (.inr (.inl y) :: .inr (.inl x) :: st) M (zQ Q) := by
  refine zr_lcmp hd1 hp1 hx hy (zr_if_ne hd ht hp ?_ (fun h => kt ?_) (fun h => kf ?_))
  all_goals (unfold zR at *; split at * <;> try split at *) <;> omega
theorem zl_al (k : zA E zNN cu d pc al' st M (zQ Q)) (h : zsub al' al) : zA E zNN cu d pc al st M (zQ Q) := zr_al (zsub_of h) k
end zl
/-- the law's call of its own look(x, a, b, out): what is behind it holds for its answer -/
def zLook (E : zE) (a b : Int) (M : zM) (Q' : Int → zM → Prop) : Prop := ∀ (c s : Nat) (st : List zV) (al : List (Nat × zV)) (Q : Int → zM → Prop), (st.map zcat).sum ≤ 8 → c + 2 ≤ 600002 → s + 40 ≤ 7302232 →
  (∀ r M', Q' r M' → zA E zNN (c + 2, s + 40) mL_law 1395 al (.inl r :: st) M' (zQ Q)) → zA E zNN (c, s) mL_law 1392 al (.inr (.inr 165) :: .inl b :: .inl a :: .inr (.inr 0) :: st) M (zQ Q)
set_option maxHeartbeats 8000000 in
set_option maxRecDepth 20000 in
theorem vcL_law {E : zE} {Q : Int → zM → Prop} (hL : E.2.2.2.2.2.1 < 2147483648) (I : Nat → Nat → Nat → Int → zM → Prop)
    (hI : ∀ (n c s : Nat) (l4 : Int) (M : zM), I n c s l4 M → (c + 2 ≤ 600002 ∧ s + 40 ≤ 7302232) ∧ ((zR l4 ∧ zR (((E.2.2.2.2.2.1 : Int)) - 7)) ∧ (((((E.2.2.2.2.2.1 : Int)) - 7) < l4 → Q 1 M) ∧ (l4 ≤ (((E.2.2.2.2.2.1 : Int)) - 7) → (0 ≤ l4 ∧ l4 < E.2.2.2.2.2.1) ∧ (zR (zand ((E.2.2.2.2.2.2 (l4.toNat)).toInt) 31) ∧ (((zand ((E.2.2.2.2.2.2 (l4.toNat)).toInt) 31) < 0 ∨ 28 < (zand ((E.2.2.2.2.2.2 (l4.toNat)).toInt) 31)) → ∃ n', n' < n ∧ I n' c s (l4 + 7) M) ∧ ((zand ((E.2.2.2.2.2.2 (l4.toNat)).toInt) 31) = 0 → (0 ≤ l4 + 1 ∧ l4 + 1 < E.2.2.2.2.2.1) ∧ (0 ≤ l4 + 2 ∧ l4 + 2 < E.2.2.2.2.2.1) ∧ (0 ≤ l4 + 3 ∧ l4 + 3 < E.2.2.2.2.2.1) ∧ (0 ≤ l4 + 4 ∧ l4 + 4 < E.2.2.2.2.2.1) ∧ (0 ≤ l4 + 5 ∧ l4 + 5 < E.2.2.2.2.2.1) ∧ (zP E mX11_feed [.inr (.inr 0), .inl ((E.2.2.2.2.2.2 ((l4 + 1).toNat)).toInt), .inl ((E.2.2.2.2.2.2 ((l4 + 2).toNat)).toInt), .inl ((E.2.2.2.2.2.2 ((l4 + 3).toNat)).toInt), .inl ((E.2.2.2.2.2.2 ((l4 + 4).toNat)).toInt), .inl ((E.2.2.2.2.2.2 ((l4 + 5).toNat)).toInt)] M (fun r1 M2 => (0 ≤ l4 + 1 ∧ l4 + 1 < E.2.2.2.2.2.1) ∧ (0 ≤ l4 + 2 ∧ l4 + 2 < E.2.2.2.2.2.1) ∧ (0 ≤ l4 + 3 ∧ l4 + 3 < E.2.2.2.2.2.1) ∧ (0 ≤ l4 + 4 ∧ l4 + 4 < E.2.2.2.2.2.1) ∧ (0 ≤ l4 + 5 ∧ l4 + 5 < E.2.2.2.2.2.1) ∧ (zP E mX12_feed [.inr (.inr 102), .inl ((E.2.2.2.2.2.2 ((l4 + 1).toNat)).toInt), .inl ((E.2.2.2.2.2.2 ((l4 + 2).toNat)).toInt), .inl ((E.2.2.2.2.2.2 ((l4 + 3).toNat)).toInt), .inl ((E.2.2.2.2.2.2 ((l4 + 4).toNat)).toInt), .inl ((E.2.2.2.2.2.2 ((l4 + 5).toNat)).toInt)] M2 (fun r3 M4 => ((zR r1 ∧ zR r3) ∧ ((r1 = r3 → ∃ n', n' < n ∧ I n' c s (l4 + 7) M4) ∧ (¬ r1 = r3 → Q 0 M4)))))))) ∧ ((zand ((E.2.2.2.2.2.2 (l4.toNat)).toInt) 31) = 1 → (0 ≤ l4 + 1 ∧ l4 + 1 < E.2.2.2.2.2.1) ∧ (zP E mX11_rules [.inr (.inr 0), .inl ((E.2.2.2.2.2.2 ((l4 + 1).toNat)).toInt)] M (fun r5 M6 => (0 ≤ l4 + 1 ∧ l4 + 1 < E.2.2.2.2.2.1) ∧ (zP E mX12_rules [.inr (.inr 102), .inl ((E.2.2.2.2.2.2 ((l4 + 1).toNat)).toInt)] M6 (fun r7 M8 => ((zR r5 ∧ zR r7) ∧ ((r5 = r7 → ∃ n', n' < n ∧ I n' c s (l4 + 7) M8) ∧ (¬ r5 = r7 → Q 0 M8)))))))) ∧ ((zand ((E.2.2.2.2.2.2 (l4.toNat)).toInt) 31) = 2 → (0 ≤ l4 + 1 ∧ l4 + 1 < E.2.2.2.2.2.1) ∧ (zP E mX11_fault [.inr (.inr 0), .inl ((E.2.2.2.2.2.2 ((l4 + 1).toNat)).toInt)] M (fun r9 M10 => (0 ≤ l4 + 1 ∧ l4 + 1 < E.2.2.2.2.2.1) ∧ (zP E mX12_fault [.inr (.inr 102), .inl ((E.2.2.2.2.2.2 ((l4 + 1).toNat)).toInt)] M10 (fun r11 M12 => ((zR r9 ∧ zR r11) ∧ ((r9 = r11 → ∃ n', n' < n ∧ I n' c s (l4 + 7) M12) ∧ (¬ r9 = r11 → Q 0 M12)))))))) ∧ ((zand ((E.2.2.2.2.2.2 (l4.toNat)).toInt) 31) = 3 → (0 ≤ l4 + 1 ∧ l4 + 1 < E.2.2.2.2.2.1) ∧ (zP E mX11_hours [.inr (.inr 0), .inl ((E.2.2.2.2.2.2 ((l4 + 1).toNat)).toInt)] M (fun r13 M14 => (0 ≤ l4 + 1 ∧ l4 + 1 < E.2.2.2.2.2.1) ∧ (zP E mX12_hours [.inr (.inr 102), .inl ((E.2.2.2.2.2.2 ((l4 + 1).toNat)).toInt)] M14 (fun r15 M16 => ((zR r13 ∧ zR r15) ∧ ((r13 = r15 → ∃ n', n' < n ∧ I n' c s (l4 + 7) M16) ∧ (¬ r13 = r15 → Q 0 M16)))))))) ∧ ((zand ((E.2.2.2.2.2.2 (l4.toNat)).toInt) 31) = 4 → (0 ≤ l4 + 1 ∧ l4 + 1 < E.2.2.2.2.2.1) ∧ (zP E mX11_post [.inr (.inr 0), .inl ((E.2.2.2.2.2.2 ((l4 + 1).toNat)).toInt)] M (fun r17 M18 => (0 ≤ l4 + 1 ∧ l4 + 1 < E.2.2.2.2.2.1) ∧ (zP E mX12_post [.inr (.inr 102), .inl ((E.2.2.2.2.2.2 ((l4 + 1).toNat)).toInt)] M18 (fun r19 M20 => ((zR r17 ∧ zR r19) ∧ ((r17 = r19 → ∃ n', n' < n ∧ I n' c s (l4 + 7) M20) ∧ (¬ r17 = r19 → Q 0 M20)))))))) ∧ ((zand ((E.2.2.2.2.2.2 (l4.toNat)).toInt) 31) = 5 → (0 ≤ l4 + 1 ∧ l4 + 1 < E.2.2.2.2.2.1) ∧ (0 ≤ l4 + 2 ∧ l4 + 2 < E.2.2.2.2.2.1) ∧ (0 ≤ l4 + 3 ∧ l4 + 3 < E.2.2.2.2.2.1) ∧ (0 ≤ l4 + 4 ∧ l4 + 4 < E.2.2.2.2.2.1) ∧ ((zR ((E.2.2.2.2.2.2 ((l4 + 4).toNat)).toInt)) ∧ ((((E.2.2.2.2.2.2 ((l4 + 4).toNat)).toInt) = 0 → (zP E mX11_read [.inr (.inr 0), .inl ((E.2.2.2.2.2.2 ((l4 + 1).toNat)).toInt), .inl ((E.2.2.2.2.2.2 ((l4 + 2).toNat)).toInt), .inl ((E.2.2.2.2.2.2 ((l4 + 3).toNat)).toInt), .inl 0] M (fun r21 M22 => (0 ≤ l4 + 1 ∧ l4 + 1 < E.2.2.2.2.2.1) ∧ (0 ≤ l4 + 2 ∧ l4 + 2 < E.2.2.2.2.2.1) ∧ (0 ≤ l4 + 3 ∧ l4 + 3 < E.2.2.2.2.2.1) ∧ (0 ≤ l4 + 4 ∧ l4 + 4 < E.2.2.2.2.2.1) ∧ ((zR ((E.2.2.2.2.2.2 ((l4 + 4).toNat)).toInt)) ∧ ((((E.2.2.2.2.2.2 ((l4 + 4).toNat)).toInt) = 0 → (zP E mX12_read [.inr (.inr 102), .inl ((E.2.2.2.2.2.2 ((l4 + 1).toNat)).toInt), .inl ((E.2.2.2.2.2.2 ((l4 + 2).toNat)).toInt), .inl ((E.2.2.2.2.2.2 ((l4 + 3).toNat)).toInt), .inl 0] M22 (fun r23 M24 => ((zR r21 ∧ zR r23) ∧ ((r21 = r23 → ∃ n', n' < n ∧ I n' c s (l4 + 7) M24) ∧ (¬ r21 = r23 → Q 0 M24)))))) ∧ (¬ ((E.2.2.2.2.2.2 ((l4 + 4).toNat)).toInt) = 0 → (zP E mX12_read [.inr (.inr 102), .inl ((E.2.2.2.2.2.2 ((l4 + 1).toNat)).toInt), .inl ((E.2.2.2.2.2.2 ((l4 + 2).toNat)).toInt), .inl ((E.2.2.2.2.2.2 ((l4 + 3).toNat)).toInt), .inl 1] M22 (fun r25 M26 => ((zR r21 ∧ zR r25) ∧ ((r21 = r25 → ∃ n', n' < n ∧ I n' c s (l4 + 7) M26) ∧ (¬ r21 = r25 → Q 0 M26))))))))))) ∧ (¬ ((E.2.2.2.2.2.2 ((l4 + 4).toNat)).toInt) = 0 → (zP E mX11_read [.inr (.inr 0), .inl ((E.2.2.2.2.2.2 ((l4 + 1).toNat)).toInt), .inl ((E.2.2.2.2.2.2 ((l4 + 2).toNat)).toInt), .inl ((E.2.2.2.2.2.2 ((l4 + 3).toNat)).toInt), .inl 1] M (fun r27 M28 => (0 ≤ l4 + 1 ∧ l4 + 1 < E.2.2.2.2.2.1) ∧ (0 ≤ l4 + 2 ∧ l4 + 2 < E.2.2.2.2.2.1) ∧ (0 ≤ l4 + 3 ∧ l4 + 3 < E.2.2.2.2.2.1) ∧ (0 ≤ l4 + 4 ∧ l4 + 4 < E.2.2.2.2.2.1) ∧ ((zR ((E.2.2.2.2.2.2 ((l4 + 4).toNat)).toInt)) ∧ ((((E.2.2.2.2.2.2 ((l4 + 4).toNat)).toInt) = 0 → (zP E mX12_read [.inr (.inr 102), .inl ((E.2.2.2.2.2.2 ((l4 + 1).toNat)).toInt), .inl ((E.2.2.2.2.2.2 ((l4 + 2).toNat)).toInt), .inl ((E.2.2.2.2.2.2 ((l4 + 3).toNat)).toInt), .inl 0] M28 (fun r29 M30 => ((zR r27 ∧ zR r29) ∧ ((r27 = r29 → ∃ n', n' < n ∧ I n' c s (l4 + 7) M30) ∧ (¬ r27 = r29 → Q 0 M30)))))) ∧ (¬ ((E.2.2.2.2.2.2 ((l4 + 4).toNat)).toInt) = 0 → (zP E mX12_read [.inr (.inr 102), .inl ((E.2.2.2.2.2.2 ((l4 + 1).toNat)).toInt), .inl ((E.2.2.2.2.2.2 ((l4 + 2).toNat)).toInt), .inl ((E.2.2.2.2.2.2 ((l4 + 3).toNat)).toInt), .inl 1] M28 (fun r31 M32 => ((zR r27 ∧ zR r31) ∧ ((r27 = r31 → ∃ n', n' < n ∧ I n' c s (l4 + 7) M32) ∧ (¬ r27 = r31 → Q 0 M32)))))))))))))) ∧ ((zand ((E.2.2.2.2.2.2 (l4.toNat)).toInt) 31) = 6 → (0 ≤ l4 + 1 ∧ l4 + 1 < E.2.2.2.2.2.1) ∧ (0 ≤ l4 + 2 ∧ l4 + 2 < E.2.2.2.2.2.1) ∧ (0 ≤ l4 + 3 ∧ l4 + 3 < E.2.2.2.2.2.1) ∧ (zP E mX11_reading [.inr (.inr 0), .inl ((E.2.2.2.2.2.2 ((l4 + 1).toNat)).toInt), .inl ((E.2.2.2.2.2.2 ((l4 + 2).toNat)).toInt), .inl ((E.2.2.2.2.2.2 ((l4 + 3).toNat)).toInt)] M (fun r33 M34 => (0 ≤ l4 + 1 ∧ l4 + 1 < E.2.2.2.2.2.1) ∧ (0 ≤ l4 + 2 ∧ l4 + 2 < E.2.2.2.2.2.1) ∧ (0 ≤ l4 + 3 ∧ l4 + 3 < E.2.2.2.2.2.1) ∧ (zP E mX12_reading [.inr (.inr 102), .inl ((E.2.2.2.2.2.2 ((l4 + 1).toNat)).toInt), .inl ((E.2.2.2.2.2.2 ((l4 + 2).toNat)).toInt), .inl ((E.2.2.2.2.2.2 ((l4 + 3).toNat)).toInt)] M34 (fun r35 M36 => ((zR r33 ∧ zR r35) ∧ ((r33 = r35 → ∃ n', n' < n ∧ I n' c s (l4 + 7) M36) ∧ (¬ r33 = r35 → Q 0 M36)))))))) ∧ ((zand ((E.2.2.2.2.2.2 (l4.toNat)).toInt) 31) = 7 → (0 ≤ l4 + 1 ∧ l4 + 1 < E.2.2.2.2.2.1) ∧ (0 ≤ l4 + 2 ∧ l4 + 2 < E.2.2.2.2.2.1) ∧ (zP E mX11_raw [.inr (.inr 0), .inl ((E.2.2.2.2.2.2 ((l4 + 1).toNat)).toInt), .inl ((E.2.2.2.2.2.2 ((l4 + 2).toNat)).toInt)] M (fun r37 M38 => (0 ≤ l4 + 1 ∧ l4 + 1 < E.2.2.2.2.2.1) ∧ (0 ≤ l4 + 2 ∧ l4 + 2 < E.2.2.2.2.2.1) ∧ (zP E mX12_raw [.inr (.inr 102), .inl ((E.2.2.2.2.2.2 ((l4 + 1).toNat)).toInt), .inl ((E.2.2.2.2.2.2 ((l4 + 2).toNat)).toInt)] M38 (fun r39 M40 => ((zR r37 ∧ zR r39) ∧ ((r37 = r39 → ∃ n', n' < n ∧ I n' c s (l4 + 7) M40) ∧ (¬ r37 = r39 → Q 0 M40)))))))) ∧ ((zand ((E.2.2.2.2.2.2 (l4.toNat)).toInt) 31) = 8 → (0 ≤ l4 + 1 ∧ l4 + 1 < E.2.2.2.2.2.1) ∧ (0 ≤ l4 + 2 ∧ l4 + 2 < E.2.2.2.2.2.1) ∧ (0 ≤ l4 + 3 ∧ l4 + 3 < E.2.2.2.2.2.1) ∧ (zP E mX11_tries [.inr (.inr 0), .inl ((E.2.2.2.2.2.2 ((l4 + 1).toNat)).toInt), .inl ((E.2.2.2.2.2.2 ((l4 + 2).toNat)).toInt), .inl ((E.2.2.2.2.2.2 ((l4 + 3).toNat)).toInt)] M (fun r41 M42 => (0 ≤ l4 + 1 ∧ l4 + 1 < E.2.2.2.2.2.1) ∧ (0 ≤ l4 + 2 ∧ l4 + 2 < E.2.2.2.2.2.1) ∧ (0 ≤ l4 + 3 ∧ l4 + 3 < E.2.2.2.2.2.1) ∧ (zP E mX12_tries [.inr (.inr 102), .inl ((E.2.2.2.2.2.2 ((l4 + 1).toNat)).toInt), .inl ((E.2.2.2.2.2.2 ((l4 + 2).toNat)).toInt), .inl ((E.2.2.2.2.2.2 ((l4 + 3).toNat)).toInt)] M42 (fun r43 M44 => ((zL r41 ∧ zL r43) ∧ ((r41 = r43 → ∃ n', n' < n ∧ I n' c s (l4 + 7) M44) ∧ (¬ r41 = r43 → Q 0 M44)))))))) ∧ ((zand ((E.2.2.2.2.2.2 (l4.toNat)).toInt) 31) = 9 → (0 ≤ l4 + 1 ∧ l4 + 1 < E.2.2.2.2.2.1) ∧ (zP E mX11_level [.inr (.inr 0), .inl ((E.2.2.2.2.2.2 ((l4 + 1).toNat)).toInt)] M (fun r45 M46 => (0 ≤ l4 + 1 ∧ l4 + 1 < E.2.2.2.2.2.1) ∧ (zP E mX12_level [.inr (.inr 102), .inl ((E.2.2.2.2.2.2 ((l4 + 1).toNat)).toInt)] M46 (fun r47 M48 => ((zR r45 ∧ zR r47) ∧ ((r45 = r47 → ∃ n', n' < n ∧ I n' c s (l4 + 7) M48) ∧ (¬ r45 = r47 → Q 0 M48)))))))) ∧ ((zand ((E.2.2.2.2.2.2 (l4.toNat)).toInt) 31) = 10 → (0 ≤ l4 + 1 ∧ l4 + 1 < E.2.2.2.2.2.1) ∧ (0 ≤ l4 + 2 ∧ l4 + 2 < E.2.2.2.2.2.1) ∧ (zP E mX11_land [.inr (.inr 0), .inl ((E.2.2.2.2.2.2 ((l4 + 1).toNat)).toInt), .inl ((E.2.2.2.2.2.2 ((l4 + 2).toNat)).toInt)] M (fun r49 M50 => (0 ≤ l4 + 1 ∧ l4 + 1 < E.2.2.2.2.2.1) ∧ (0 ≤ l4 + 2 ∧ l4 + 2 < E.2.2.2.2.2.1) ∧ (zP E mX12_land [.inr (.inr 102), .inl ((E.2.2.2.2.2.2 ((l4 + 1).toNat)).toInt), .inl ((E.2.2.2.2.2.2 ((l4 + 2).toNat)).toInt)] M50 (fun r51 M52 => ((zR r49 ∧ zR r51) ∧ ((r49 = r51 → ∃ n', n' < n ∧ I n' c s (l4 + 7) M52) ∧ (¬ r49 = r51 → Q 0 M52)))))))) ∧ ((zand ((E.2.2.2.2.2.2 (l4.toNat)).toInt) 31) = 11 → (0 ≤ l4 + 1 ∧ l4 + 1 < E.2.2.2.2.2.1) ∧ (0 ≤ l4 + 2 ∧ l4 + 2 < E.2.2.2.2.2.1) ∧ (0 ≤ l4 + 3 ∧ l4 + 3 < E.2.2.2.2.2.1) ∧ (zP E mX11_ground [.inr (.inr 0), .inl ((E.2.2.2.2.2.2 ((l4 + 1).toNat)).toInt), .inl ((E.2.2.2.2.2.2 ((l4 + 2).toNat)).toInt), .inl ((E.2.2.2.2.2.2 ((l4 + 3).toNat)).toInt)] M (fun r53 M54 => (0 ≤ l4 + 1 ∧ l4 + 1 < E.2.2.2.2.2.1) ∧ (0 ≤ l4 + 2 ∧ l4 + 2 < E.2.2.2.2.2.1) ∧ (0 ≤ l4 + 3 ∧ l4 + 3 < E.2.2.2.2.2.1) ∧ (zP E mX12_ground [.inr (.inr 102), .inl ((E.2.2.2.2.2.2 ((l4 + 1).toNat)).toInt), .inl ((E.2.2.2.2.2.2 ((l4 + 2).toNat)).toInt), .inl ((E.2.2.2.2.2.2 ((l4 + 3).toNat)).toInt)] M54 (fun r55 M56 => ((zR r53 ∧ zR r55) ∧ ((r53 = r55 → ∃ n', n' < n ∧ I n' c s (l4 + 7) M56) ∧ (¬ r53 = r55 → Q 0 M56)))))))) ∧ ((zand ((E.2.2.2.2.2.2 (l4.toNat)).toInt) 31) = 12 → (0 ≤ l4 + 1 ∧ l4 + 1 < E.2.2.2.2.2.1) ∧ (0 ≤ l4 + 2 ∧ l4 + 2 < E.2.2.2.2.2.1) ∧ ((zR ((E.2.2.2.2.2.2 ((l4 + 2).toNat)).toInt)) ∧ ((((E.2.2.2.2.2.2 ((l4 + 2).toNat)).toInt) = 0 → (0 ≤ l4 + 3 ∧ l4 + 3 < E.2.2.2.2.2.1) ∧ ((zR ((E.2.2.2.2.2.2 ((l4 + 3).toNat)).toInt)) ∧ ((((E.2.2.2.2.2.2 ((l4 + 3).toNat)).toInt) = 0 → (zP E mX11_work [.inr (.inr 0), .inl ((E.2.2.2.2.2.2 ((l4 + 1).toNat)).toInt), .inl 0, .inl 0] M (fun r57 M58 => (0 ≤ l4 + 1 ∧ l4 + 1 < E.2.2.2.2.2.1) ∧ (0 ≤ l4 + 2 ∧ l4 + 2 < E.2.2.2.2.2.1) ∧ ((zR ((E.2.2.2.2.2.2 ((l4 + 2).toNat)).toInt)) ∧ ((((E.2.2.2.2.2.2 ((l4 + 2).toNat)).toInt) = 0 → (0 ≤ l4 + 3 ∧ l4 + 3 < E.2.2.2.2.2.1) ∧ ((zR ((E.2.2.2.2.2.2 ((l4 + 3).toNat)).toInt)) ∧ ((((E.2.2.2.2.2.2 ((l4 + 3).toNat)).toInt) = 0 → (zP E mX12_work [.inr (.inr 102), .inl ((E.2.2.2.2.2.2 ((l4 + 1).toNat)).toInt), .inl 0, .inl 0] M58 (fun r59 M60 => ((zR r57 ∧ zR r59) ∧ ((r57 = r59 → ∃ n', n' < n ∧ I n' c s (l4 + 7) M60) ∧ (¬ r57 = r59 → Q 0 M60)))))) ∧ (¬ ((E.2.2.2.2.2.2 ((l4 + 3).toNat)).toInt) = 0 → (zP E mX12_work [.inr (.inr 102), .inl ((E.2.2.2.2.2.2 ((l4 + 1).toNat)).toInt), .inl 0, .inl 1] M58 (fun r61 M62 => ((zR r57 ∧ zR r61) ∧ ((r57 = r61 → ∃ n', n' < n ∧ I n' c s (l4 + 7) M62) ∧ (¬ r57 = r61 → Q 0 M62))))))))) ∧ (¬ ((E.2.2.2.2.2.2 ((l4 + 2).toNat)).toInt) = 0 → (0 ≤ l4 + 3 ∧ l4 + 3 < E.2.2.2.2.2.1) ∧ ((zR ((E.2.2.2.2.2.2 ((l4 + 3).toNat)).toInt)) ∧ ((((E.2.2.2.2.2.2 ((l4 + 3).toNat)).toInt) = 0 → (zP E mX12_work [.inr (.inr 102), .inl ((E.2.2.2.2.2.2 ((l4 + 1).toNat)).toInt), .inl 1, .inl 0] M58 (fun r63 M64 => ((zR r57 ∧ zR r63) ∧ ((r57 = r63 → ∃ n', n' < n ∧ I n' c s (l4 + 7) M64) ∧ (¬ r57 = r63 → Q 0 M64)))))) ∧ (¬ ((E.2.2.2.2.2.2 ((l4 + 3).toNat)).toInt) = 0 → (zP E mX12_work [.inr (.inr 102), .inl ((E.2.2.2.2.2.2 ((l4 + 1).toNat)).toInt), .inl 1, .inl 1] M58 (fun r65 M66 => ((zR r57 ∧ zR r65) ∧ ((r57 = r65 → ∃ n', n' < n ∧ I n' c s (l4 + 7) M66) ∧ (¬ r57 = r65 → Q 0 M66)))))))))))))) ∧ (¬ ((E.2.2.2.2.2.2 ((l4 + 3).toNat)).toInt) = 0 → (zP E mX11_work [.inr (.inr 0), .inl ((E.2.2.2.2.2.2 ((l4 + 1).toNat)).toInt), .inl 0, .inl 1] M (fun r67 M68 => (0 ≤ l4 + 1 ∧ l4 + 1 < E.2.2.2.2.2.1) ∧ (0 ≤ l4 + 2 ∧ l4 + 2 < E.2.2.2.2.2.1) ∧ ((zR ((E.2.2.2.2.2.2 ((l4 + 2).toNat)).toInt)) ∧ ((((E.2.2.2.2.2.2 ((l4 + 2).toNat)).toInt) = 0 → (0 ≤ l4 + 3 ∧ l4 + 3 < E.2.2.2.2.2.1) ∧ ((zR ((E.2.2.2.2.2.2 ((l4 + 3).toNat)).toInt)) ∧ ((((E.2.2.2.2.2.2 ((l4 + 3).toNat)).toInt) = 0 → (zP E mX12_work [.inr (.inr 102), .inl ((E.2.2.2.2.2.2 ((l4 + 1).toNat)).toInt), .inl 0, .inl 0] M68 (fun r69 M70 => ((zR r67 ∧ zR r69) ∧ ((r67 = r69 → ∃ n', n' < n ∧ I n' c s (l4 + 7) M70) ∧ (¬ r67 = r69 → Q 0 M70)))))) ∧ (¬ ((E.2.2.2.2.2.2 ((l4 + 3).toNat)).toInt) = 0 → (zP E mX12_work [.inr (.inr 102), .inl ((E.2.2.2.2.2.2 ((l4 + 1).toNat)).toInt), .inl 0, .inl 1] M68 (fun r71 M72 => ((zR r67 ∧ zR r71) ∧ ((r67 = r71 → ∃ n', n' < n ∧ I n' c s (l4 + 7) M72) ∧ (¬ r67 = r71 → Q 0 M72))))))))) ∧ (¬ ((E.2.2.2.2.2.2 ((l4 + 2).toNat)).toInt) = 0 → (0 ≤ l4 + 3 ∧ l4 + 3 < E.2.2.2.2.2.1) ∧ ((zR ((E.2.2.2.2.2.2 ((l4 + 3).toNat)).toInt)) ∧ ((((E.2.2.2.2.2.2 ((l4 + 3).toNat)).toInt) = 0 → (zP E mX12_work [.inr (.inr 102), .inl ((E.2.2.2.2.2.2 ((l4 + 1).toNat)).toInt), .inl 1, .inl 0] M68 (fun r73 M74 => ((zR r67 ∧ zR r73) ∧ ((r67 = r73 → ∃ n', n' < n ∧ I n' c s (l4 + 7) M74) ∧ (¬ r67 = r73 → Q 0 M74)))))) ∧ (¬ ((E.2.2.2.2.2.2 ((l4 + 3).toNat)).toInt) = 0 → (zP E mX12_work [.inr (.inr 102), .inl ((E.2.2.2.2.2.2 ((l4 + 1).toNat)).toInt), .inl 1, .inl 1] M68 (fun r75 M76 => ((zR r67 ∧ zR r75) ∧ ((r67 = r75 → ∃ n', n' < n ∧ I n' c s (l4 + 7) M76) ∧ (¬ r67 = r75 → Q 0 M76))))))))))))))))) ∧ (¬ ((E.2.2.2.2.2.2 ((l4 + 2).toNat)).toInt) = 0 → (0 ≤ l4 + 3 ∧ l4 + 3 < E.2.2.2.2.2.1) ∧ ((zR ((E.2.2.2.2.2.2 ((l4 + 3).toNat)).toInt)) ∧ ((((E.2.2.2.2.2.2 ((l4 + 3).toNat)).toInt) = 0 → (zP E mX11_work [.inr (.inr 0), .inl ((E.2.2.2.2.2.2 ((l4 + 1).toNat)).toInt), .inl 1, .inl 0] M (fun r77 M78 => (0 ≤ l4 + 1 ∧ l4 + 1 < E.2.2.2.2.2.1) ∧ (0 ≤ l4 + 2 ∧ l4 + 2 < E.2.2.2.2.2.1) ∧ ((zR ((E.2.2.2.2.2.2 ((l4 + 2).toNat)).toInt)) ∧ ((((E.2.2.2.2.2.2 ((l4 + 2).toNat)).toInt) = 0 → (0 ≤ l4 + 3 ∧ l4 + 3 < E.2.2.2.2.2.1) ∧ ((zR ((E.2.2.2.2.2.2 ((l4 + 3).toNat)).toInt)) ∧ ((((E.2.2.2.2.2.2 ((l4 + 3).toNat)).toInt) = 0 → (zP E mX12_work [.inr (.inr 102), .inl ((E.2.2.2.2.2.2 ((l4 + 1).toNat)).toInt), .inl 0, .inl 0] M78 (fun r79 M80 => ((zR r77 ∧ zR r79) ∧ ((r77 = r79 → ∃ n', n' < n ∧ I n' c s (l4 + 7) M80) ∧ (¬ r77 = r79 → Q 0 M80)))))) ∧ (¬ ((E.2.2.2.2.2.2 ((l4 + 3).toNat)).toInt) = 0 → (zP E mX12_work [.inr (.inr 102), .inl ((E.2.2.2.2.2.2 ((l4 + 1).toNat)).toInt), .inl 0, .inl 1] M78 (fun r81 M82 => ((zR r77 ∧ zR r81) ∧ ((r77 = r81 → ∃ n', n' < n ∧ I n' c s (l4 + 7) M82) ∧ (¬ r77 = r81 → Q 0 M82))))))))) ∧ (¬ ((E.2.2.2.2.2.2 ((l4 + 2).toNat)).toInt) = 0 → (0 ≤ l4 + 3 ∧ l4 + 3 < E.2.2.2.2.2.1) ∧ ((zR ((E.2.2.2.2.2.2 ((l4 + 3).toNat)).toInt)) ∧ ((((E.2.2.2.2.2.2 ((l4 + 3).toNat)).toInt) = 0 → (zP E mX12_work [.inr (.inr 102), .inl ((E.2.2.2.2.2.2 ((l4 + 1).toNat)).toInt), .inl 1, .inl 0] M78 (fun r83 M84 => ((zR r77 ∧ zR r83) ∧ ((r77 = r83 → ∃ n', n' < n ∧ I n' c s (l4 + 7) M84) ∧ (¬ r77 = r83 → Q 0 M84)))))) ∧ (¬ ((E.2.2.2.2.2.2 ((l4 + 3).toNat)).toInt) = 0 → (zP E mX12_work [.inr (.inr 102), .inl ((E.2.2.2.2.2.2 ((l4 + 1).toNat)).toInt), .inl 1, .inl 1] M78 (fun r85 M86 => ((zR r77 ∧ zR r85) ∧ ((r77 = r85 → ∃ n', n' < n ∧ I n' c s (l4 + 7) M86) ∧ (¬ r77 = r85 → Q 0 M86)))))))))))))) ∧ (¬ ((E.2.2.2.2.2.2 ((l4 + 3).toNat)).toInt) = 0 → (zP E mX11_work [.inr (.inr 0), .inl ((E.2.2.2.2.2.2 ((l4 + 1).toNat)).toInt), .inl 1, .inl 1] M (fun r87 M88 => (0 ≤ l4 + 1 ∧ l4 + 1 < E.2.2.2.2.2.1) ∧ (0 ≤ l4 + 2 ∧ l4 + 2 < E.2.2.2.2.2.1) ∧ ((zR ((E.2.2.2.2.2.2 ((l4 + 2).toNat)).toInt)) ∧ ((((E.2.2.2.2.2.2 ((l4 + 2).toNat)).toInt) = 0 → (0 ≤ l4 + 3 ∧ l4 + 3 < E.2.2.2.2.2.1) ∧ ((zR ((E.2.2.2.2.2.2 ((l4 + 3).toNat)).toInt)) ∧ ((((E.2.2.2.2.2.2 ((l4 + 3).toNat)).toInt) = 0 → (zP E mX12_work [.inr (.inr 102), .inl ((E.2.2.2.2.2.2 ((l4 + 1).toNat)).toInt), .inl 0, .inl 0] M88 (fun r89 M90 => ((zR r87 ∧ zR r89) ∧ ((r87 = r89 → ∃ n', n' < n ∧ I n' c s (l4 + 7) M90) ∧ (¬ r87 = r89 → Q 0 M90)))))) ∧ (¬ ((E.2.2.2.2.2.2 ((l4 + 3).toNat)).toInt) = 0 → (zP E mX12_work [.inr (.inr 102), .inl ((E.2.2.2.2.2.2 ((l4 + 1).toNat)).toInt), .inl 0, .inl 1] M88 (fun r91 M92 => ((zR r87 ∧ zR r91) ∧ ((r87 = r91 → ∃ n', n' < n ∧ I n' c s (l4 + 7) M92) ∧ (¬ r87 = r91 → Q 0 M92))))))))) ∧ (¬ ((E.2.2.2.2.2.2 ((l4 + 2).toNat)).toInt) = 0 → (0 ≤ l4 + 3 ∧ l4 + 3 < E.2.2.2.2.2.1) ∧ ((zR ((E.2.2.2.2.2.2 ((l4 + 3).toNat)).toInt)) ∧ ((((E.2.2.2.2.2.2 ((l4 + 3).toNat)).toInt) = 0 → (zP E mX12_work [.inr (.inr 102), .inl ((E.2.2.2.2.2.2 ((l4 + 1).toNat)).toInt), .inl 1, .inl 0] M88 (fun r93 M94 => ((zR r87 ∧ zR r93) ∧ ((r87 = r93 → ∃ n', n' < n ∧ I n' c s (l4 + 7) M94) ∧ (¬ r87 = r93 → Q 0 M94)))))) ∧ (¬ ((E.2.2.2.2.2.2 ((l4 + 3).toNat)).toInt) = 0 → (zP E mX12_work [.inr (.inr 102), .inl ((E.2.2.2.2.2.2 ((l4 + 1).toNat)).toInt), .inl 1, .inl 1] M88 (fun r95 M96 => ((zR r87 ∧ zR r95) ∧ ((r87 = r95 → ∃ n', n' < n ∧ I n' c s (l4 + 7) M96) ∧ (¬ r87 = r95 → Q 0 M96)))))))))))))))))))) ∧ ((zand ((E.2.2.2.2.2.2 (l4.toNat)).toInt) 31) = 13 → (0 ≤ l4 + 1 ∧ l4 + 1 < E.2.2.2.2.2.1) ∧ (0 ≤ l4 + 2 ∧ l4 + 2 < E.2.2.2.2.2.1) ∧ (0 ≤ l4 + 3 ∧ l4 + 3 < E.2.2.2.2.2.1) ∧ (0 ≤ l4 + 4 ∧ l4 + 4 < E.2.2.2.2.2.1) ∧ (0 ≤ l4 + 5 ∧ l4 + 5 < E.2.2.2.2.2.1) ∧ (zP E mX11_world [.inr (.inr 0), .inl ((E.2.2.2.2.2.2 ((l4 + 1).toNat)).toInt), .inl ((E.2.2.2.2.2.2 ((l4 + 2).toNat)).toInt), .inl ((E.2.2.2.2.2.2 ((l4 + 3).toNat)).toInt), .inl ((E.2.2.2.2.2.2 ((l4 + 4).toNat)).toInt), .inl ((E.2.2.2.2.2.2 ((l4 + 5).toNat)).toInt)] M (fun r97 M98 => (0 ≤ l4 + 1 ∧ l4 + 1 < E.2.2.2.2.2.1) ∧ (0 ≤ l4 + 2 ∧ l4 + 2 < E.2.2.2.2.2.1) ∧ (0 ≤ l4 + 3 ∧ l4 + 3 < E.2.2.2.2.2.1) ∧ (0 ≤ l4 + 4 ∧ l4 + 4 < E.2.2.2.2.2.1) ∧ (0 ≤ l4 + 5 ∧ l4 + 5 < E.2.2.2.2.2.1) ∧ (zP E mX12_world [.inr (.inr 102), .inl ((E.2.2.2.2.2.2 ((l4 + 1).toNat)).toInt), .inl ((E.2.2.2.2.2.2 ((l4 + 2).toNat)).toInt), .inl ((E.2.2.2.2.2.2 ((l4 + 3).toNat)).toInt), .inl ((E.2.2.2.2.2.2 ((l4 + 4).toNat)).toInt), .inl ((E.2.2.2.2.2.2 ((l4 + 5).toNat)).toInt)] M98 (fun r99 M100 => ((zR r97 ∧ zR r99) ∧ ((r97 = r99 → ∃ n', n' < n ∧ I n' c s (l4 + 7) M100) ∧ (¬ r97 = r99 → Q 0 M100)))))))) ∧ ((zand ((E.2.2.2.2.2.2 (l4.toNat)).toInt) 31) = 14 → (0 ≤ l4 + 1 ∧ l4 + 1 < E.2.2.2.2.2.1) ∧ (0 ≤ l4 + 2 ∧ l4 + 2 < E.2.2.2.2.2.1) ∧ (0 ≤ l4 + 3 ∧ l4 + 3 < E.2.2.2.2.2.1) ∧ (0 ≤ l4 + 4 ∧ l4 + 4 < E.2.2.2.2.2.1) ∧ (zP E mX11_lava [.inr (.inr 0), .inl ((E.2.2.2.2.2.2 ((l4 + 1).toNat)).toInt), .inl ((E.2.2.2.2.2.2 ((l4 + 2).toNat)).toInt), .inl ((E.2.2.2.2.2.2 ((l4 + 3).toNat)).toInt), .inl ((E.2.2.2.2.2.2 ((l4 + 4).toNat)).toInt)] M (fun r101 M102 => (0 ≤ l4 + 1 ∧ l4 + 1 < E.2.2.2.2.2.1) ∧ (0 ≤ l4 + 2 ∧ l4 + 2 < E.2.2.2.2.2.1) ∧ (0 ≤ l4 + 3 ∧ l4 + 3 < E.2.2.2.2.2.1) ∧ (0 ≤ l4 + 4 ∧ l4 + 4 < E.2.2.2.2.2.1) ∧ (zP E mX12_lava [.inr (.inr 102), .inl ((E.2.2.2.2.2.2 ((l4 + 1).toNat)).toInt), .inl ((E.2.2.2.2.2.2 ((l4 + 2).toNat)).toInt), .inl ((E.2.2.2.2.2.2 ((l4 + 3).toNat)).toInt), .inl ((E.2.2.2.2.2.2 ((l4 + 4).toNat)).toInt)] M102 (fun r103 M104 => ((zR r101 ∧ zR r103) ∧ ((r101 = r103 → ∃ n', n' < n ∧ I n' c s (l4 + 7) M104) ∧ (¬ r101 = r103 → Q 0 M104)))))))) ∧ ((zand ((E.2.2.2.2.2.2 (l4.toNat)).toInt) 31) = 15 → (0 ≤ l4 + 1 ∧ l4 + 1 < E.2.2.2.2.2.1) ∧ (0 ≤ l4 + 2 ∧ l4 + 2 < E.2.2.2.2.2.1) ∧ (zP E mX11_reached [.inr (.inr 0), .inl ((E.2.2.2.2.2.2 ((l4 + 1).toNat)).toInt), .inl ((E.2.2.2.2.2.2 ((l4 + 2).toNat)).toInt)] M (fun r105 M106 => (0 ≤ l4 + 1 ∧ l4 + 1 < E.2.2.2.2.2.1) ∧ (0 ≤ l4 + 2 ∧ l4 + 2 < E.2.2.2.2.2.1) ∧ (zP E mX12_reached [.inr (.inr 102), .inl ((E.2.2.2.2.2.2 ((l4 + 1).toNat)).toInt), .inl ((E.2.2.2.2.2.2 ((l4 + 2).toNat)).toInt)] M106 (fun r107 M108 => ((zR r105 ∧ zR r107) ∧ ((r105 = r107 → ∃ n', n' < n ∧ I n' c s (l4 + 7) M108) ∧ (¬ r105 = r107 → Q 0 M108)))))))) ∧ ((zand ((E.2.2.2.2.2.2 (l4.toNat)).toInt) 31) = 16 → (0 ≤ l4 + 1 ∧ l4 + 1 < E.2.2.2.2.2.1) ∧ (0 ≤ l4 + 2 ∧ l4 + 2 < E.2.2.2.2.2.1) ∧ (0 ≤ l4 + 3 ∧ l4 + 3 < E.2.2.2.2.2.1) ∧ (0 ≤ l4 + 4 ∧ l4 + 4 < E.2.2.2.2.2.1) ∧ (zP E mX11_town [.inr (.inr 0), .inl ((E.2.2.2.2.2.2 ((l4 + 1).toNat)).toInt), .inl ((E.2.2.2.2.2.2 ((l4 + 2).toNat)).toInt), .inl ((E.2.2.2.2.2.2 ((l4 + 3).toNat)).toInt), .inl ((E.2.2.2.2.2.2 ((l4 + 4).toNat)).toInt)] M (fun r109 M110 => (0 ≤ l4 + 1 ∧ l4 + 1 < E.2.2.2.2.2.1) ∧ (0 ≤ l4 + 2 ∧ l4 + 2 < E.2.2.2.2.2.1) ∧ (0 ≤ l4 + 3 ∧ l4 + 3 < E.2.2.2.2.2.1) ∧ (0 ≤ l4 + 4 ∧ l4 + 4 < E.2.2.2.2.2.1) ∧ (zP E mX12_town [.inr (.inr 102), .inl ((E.2.2.2.2.2.2 ((l4 + 1).toNat)).toInt), .inl ((E.2.2.2.2.2.2 ((l4 + 2).toNat)).toInt), .inl ((E.2.2.2.2.2.2 ((l4 + 3).toNat)).toInt), .inl ((E.2.2.2.2.2.2 ((l4 + 4).toNat)).toInt)] M110 (fun r111 M112 => ((zR r109 ∧ zR r111) ∧ ((r109 = r111 → ∃ n', n' < n ∧ I n' c s (l4 + 7) M112) ∧ (¬ r109 = r111 → Q 0 M112)))))))) ∧ ((zand ((E.2.2.2.2.2.2 (l4.toNat)).toInt) 31) = 17 → (0 ≤ l4 + 1 ∧ l4 + 1 < E.2.2.2.2.2.1) ∧ (zP E mX11_shelter [.inr (.inr 0), .inl ((E.2.2.2.2.2.2 ((l4 + 1).toNat)).toInt)] M (fun r113 M114 => (0 ≤ l4 + 1 ∧ l4 + 1 < E.2.2.2.2.2.1) ∧ (zP E mX12_shelter [.inr (.inr 102), .inl ((E.2.2.2.2.2.2 ((l4 + 1).toNat)).toInt)] M114 (fun r115 M116 => ((zR r113 ∧ zR r115) ∧ ((r113 = r115 → ∃ n', n' < n ∧ I n' c s (l4 + 7) M116) ∧ (¬ r113 = r115 → Q 0 M116)))))))) ∧ ((zand ((E.2.2.2.2.2.2 (l4.toNat)).toInt) 31) = 18 → (0 ≤ l4 + 1 ∧ l4 + 1 < E.2.2.2.2.2.1) ∧ (0 ≤ l4 + 2 ∧ l4 + 2 < E.2.2.2.2.2.1) ∧ (0 ≤ l4 + 3 ∧ l4 + 3 < E.2.2.2.2.2.1) ∧ (0 ≤ l4 + 4 ∧ l4 + 4 < E.2.2.2.2.2.1) ∧ (0 ≤ l4 + 5 ∧ l4 + 5 < E.2.2.2.2.2.1) ∧ (0 ≤ l4 + 6 ∧ l4 + 6 < E.2.2.2.2.2.1) ∧ (zP E mX11_road [.inr (.inr 0), .inl ((E.2.2.2.2.2.2 ((l4 + 1).toNat)).toInt), .inl ((E.2.2.2.2.2.2 ((l4 + 2).toNat)).toInt), .inl ((E.2.2.2.2.2.2 ((l4 + 3).toNat)).toInt), .inl ((E.2.2.2.2.2.2 ((l4 + 4).toNat)).toInt), .inl ((E.2.2.2.2.2.2 ((l4 + 5).toNat)).toInt), .inl ((E.2.2.2.2.2.2 ((l4 + 6).toNat)).toInt)] M (fun r117 M118 => (0 ≤ l4 + 1 ∧ l4 + 1 < E.2.2.2.2.2.1) ∧ (0 ≤ l4 + 2 ∧ l4 + 2 < E.2.2.2.2.2.1) ∧ (0 ≤ l4 + 3 ∧ l4 + 3 < E.2.2.2.2.2.1) ∧ (0 ≤ l4 + 4 ∧ l4 + 4 < E.2.2.2.2.2.1) ∧ (0 ≤ l4 + 5 ∧ l4 + 5 < E.2.2.2.2.2.1) ∧ (0 ≤ l4 + 6 ∧ l4 + 6 < E.2.2.2.2.2.1) ∧ (zP E mX12_road [.inr (.inr 102), .inl ((E.2.2.2.2.2.2 ((l4 + 1).toNat)).toInt), .inl ((E.2.2.2.2.2.2 ((l4 + 2).toNat)).toInt), .inl ((E.2.2.2.2.2.2 ((l4 + 3).toNat)).toInt), .inl ((E.2.2.2.2.2.2 ((l4 + 4).toNat)).toInt), .inl ((E.2.2.2.2.2.2 ((l4 + 5).toNat)).toInt), .inl ((E.2.2.2.2.2.2 ((l4 + 6).toNat)).toInt)] M118 (fun r119 M120 => ((zR r117 ∧ zR r119) ∧ ((r117 = r119 → ∃ n', n' < n ∧ I n' c s (l4 + 7) M120) ∧ (¬ r117 = r119 → Q 0 M120)))))))) ∧ ((zand ((E.2.2.2.2.2.2 (l4.toNat)).toInt) 31) = 19 → (0 ≤ l4 + 1 ∧ l4 + 1 < E.2.2.2.2.2.1) ∧ (zP E mX11_warned [.inr (.inr 0), .inl ((E.2.2.2.2.2.2 ((l4 + 1).toNat)).toInt)] M (fun r121 M122 => (0 ≤ l4 + 1 ∧ l4 + 1 < E.2.2.2.2.2.1) ∧ (zP E mX12_warned [.inr (.inr 102), .inl ((E.2.2.2.2.2.2 ((l4 + 1).toNat)).toInt)] M122 (fun r123 M124 => ((zR r121 ∧ zR r123) ∧ ((r121 = r123 → ∃ n', n' < n ∧ I n' c s (l4 + 7) M124) ∧ (¬ r121 = r123 → Q 0 M124)))))))) ∧ ((zand ((E.2.2.2.2.2.2 (l4.toNat)).toInt) 31) = 20 → (0 ≤ l4 + 1 ∧ l4 + 1 < E.2.2.2.2.2.1) ∧ (0 ≤ l4 + 2 ∧ l4 + 2 < E.2.2.2.2.2.1) ∧ (zP E mX11_ledOut [.inr (.inr 0), .inl ((E.2.2.2.2.2.2 ((l4 + 1).toNat)).toInt), .inl ((E.2.2.2.2.2.2 ((l4 + 2).toNat)).toInt)] M (fun r125 M126 => (0 ≤ l4 + 1 ∧ l4 + 1 < E.2.2.2.2.2.1) ∧ (0 ≤ l4 + 2 ∧ l4 + 2 < E.2.2.2.2.2.1) ∧ (zP E mX12_ledOut [.inr (.inr 102), .inl ((E.2.2.2.2.2.2 ((l4 + 1).toNat)).toInt), .inl ((E.2.2.2.2.2.2 ((l4 + 2).toNat)).toInt)] M126 (fun r127 M128 => ((zR r125 ∧ zR r127) ∧ ((r125 = r127 → ∃ n', n' < n ∧ I n' c s (l4 + 7) M128) ∧ (¬ r125 = r127 → Q 0 M128)))))))) ∧ ((zand ((E.2.2.2.2.2.2 (l4.toNat)).toInt) 31) = 21 → (0 ≤ l4 + 1 ∧ l4 + 1 < E.2.2.2.2.2.1) ∧ (0 ≤ l4 + 2 ∧ l4 + 2 < E.2.2.2.2.2.1) ∧ (0 ≤ l4 + 3 ∧ l4 + 3 < E.2.2.2.2.2.1) ∧ (zP E mX11_cut [.inr (.inr 0), .inl ((E.2.2.2.2.2.2 ((l4 + 1).toNat)).toInt), .inl ((E.2.2.2.2.2.2 ((l4 + 2).toNat)).toInt), .inl ((E.2.2.2.2.2.2 ((l4 + 3).toNat)).toInt)] M (fun r129 M130 => (0 ≤ l4 + 1 ∧ l4 + 1 < E.2.2.2.2.2.1) ∧ (0 ≤ l4 + 2 ∧ l4 + 2 < E.2.2.2.2.2.1) ∧ (0 ≤ l4 + 3 ∧ l4 + 3 < E.2.2.2.2.2.1) ∧ (zP E mX12_cut [.inr (.inr 102), .inl ((E.2.2.2.2.2.2 ((l4 + 1).toNat)).toInt), .inl ((E.2.2.2.2.2.2 ((l4 + 2).toNat)).toInt), .inl ((E.2.2.2.2.2.2 ((l4 + 3).toNat)).toInt)] M130 (fun r131 M132 => ((zR r129 ∧ zR r131) ∧ ((r129 = r131 → ∃ n', n' < n ∧ I n' c s (l4 + 7) M132) ∧ (¬ r129 = r131 → Q 0 M132)))))))) ∧ ((zand ((E.2.2.2.2.2.2 (l4.toNat)).toInt) 31) = 22 → (0 ≤ l4 + 1 ∧ l4 + 1 < E.2.2.2.2.2.1) ∧ (zP E mX11_cost [.inr (.inr 0), .inl ((E.2.2.2.2.2.2 ((l4 + 1).toNat)).toInt)] M (fun r133 M134 => (0 ≤ l4 + 1 ∧ l4 + 1 < E.2.2.2.2.2.1) ∧ (zP E mX12_cost [.inr (.inr 102), .inl ((E.2.2.2.2.2.2 ((l4 + 1).toNat)).toInt)] M134 (fun r135 M136 => ((zR r133 ∧ zR r135) ∧ ((r133 = r135 → ∃ n', n' < n ∧ I n' c s (l4 + 7) M136) ∧ (¬ r133 = r135 → Q 0 M136)))))))) ∧ ((zand ((E.2.2.2.2.2.2 (l4.toNat)).toInt) 31) = 23 → (0 ≤ l4 + 1 ∧ l4 + 1 < E.2.2.2.2.2.1) ∧ (zP E mX11_candidate [.inr (.inr 0), .inl ((E.2.2.2.2.2.2 ((l4 + 1).toNat)).toInt)] M (fun r137 M138 => (0 ≤ l4 + 1 ∧ l4 + 1 < E.2.2.2.2.2.1) ∧ (zP E mX12_candidate [.inr (.inr 102), .inl ((E.2.2.2.2.2.2 ((l4 + 1).toNat)).toInt)] M138 (fun r139 M140 => ((zR r137 ∧ zR r139) ∧ ((r137 = r139 → ∃ n', n' < n ∧ I n' c s (l4 + 7) M140) ∧ (¬ r137 = r139 → Q 0 M140)))))))) ∧ ((zand ((E.2.2.2.2.2.2 (l4.toNat)).toInt) 31) = 24 → (0 ≤ l4 + 1 ∧ l4 + 1 < E.2.2.2.2.2.1) ∧ (0 ≤ l4 + 2 ∧ l4 + 2 < E.2.2.2.2.2.1) ∧ (zP E mX11_best [.inr (.inr 0), .inl ((E.2.2.2.2.2.2 ((l4 + 1).toNat)).toInt), .inl ((E.2.2.2.2.2.2 ((l4 + 2).toNat)).toInt)] M (fun r141 M142 => (0 ≤ l4 + 1 ∧ l4 + 1 < E.2.2.2.2.2.1) ∧ (0 ≤ l4 + 2 ∧ l4 + 2 < E.2.2.2.2.2.1) ∧ (zP E mX12_best [.inr (.inr 102), .inl ((E.2.2.2.2.2.2 ((l4 + 1).toNat)).toInt), .inl ((E.2.2.2.2.2.2 ((l4 + 2).toNat)).toInt)] M142 (fun r143 M144 => ((zR r141 ∧ zR r143) ∧ ((r141 = r143 → ∃ n', n' < n ∧ I n' c s (l4 + 7) M144) ∧ (¬ r141 = r143 → Q 0 M144)))))))) ∧ ((zand ((E.2.2.2.2.2.2 (l4.toNat)).toInt) 31) = 25 → (0 ≤ l4 + 1 ∧ l4 + 1 < E.2.2.2.2.2.1) ∧ (0 ≤ l4 + 2 ∧ l4 + 2 < E.2.2.2.2.2.1) ∧ (0 ≤ l4 + 3 ∧ l4 + 3 < E.2.2.2.2.2.1) ∧ (zP E mX11_wind [.inr (.inr 0), .inl ((E.2.2.2.2.2.2 ((l4 + 1).toNat)).toInt), .inl ((E.2.2.2.2.2.2 ((l4 + 2).toNat)).toInt), .inl ((E.2.2.2.2.2.2 ((l4 + 3).toNat)).toInt)] M (fun r145 M146 => (0 ≤ l4 + 1 ∧ l4 + 1 < E.2.2.2.2.2.1) ∧ (0 ≤ l4 + 2 ∧ l4 + 2 < E.2.2.2.2.2.1) ∧ (0 ≤ l4 + 3 ∧ l4 + 3 < E.2.2.2.2.2.1) ∧ (zP E mX12_wind [.inr (.inr 102), .inl ((E.2.2.2.2.2.2 ((l4 + 1).toNat)).toInt), .inl ((E.2.2.2.2.2.2 ((l4 + 2).toNat)).toInt), .inl ((E.2.2.2.2.2.2 ((l4 + 3).toNat)).toInt)] M146 (fun r147 M148 => ((zR r145 ∧ zR r147) ∧ ((r145 = r147 → ∃ n', n' < n ∧ I n' c s (l4 + 7) M148) ∧ (¬ r145 = r147 → Q 0 M148)))))))) ∧ ((zand ((E.2.2.2.2.2.2 (l4.toNat)).toInt) 31) = 26 → (0 ≤ l4 + 1 ∧ l4 + 1 < E.2.2.2.2.2.1) ∧ (0 ≤ l4 + 2 ∧ l4 + 2 < E.2.2.2.2.2.1) ∧ (zP E mX11_ash [.inr (.inr 0), .inl ((E.2.2.2.2.2.2 ((l4 + 1).toNat)).toInt), .inl ((E.2.2.2.2.2.2 ((l4 + 2).toNat)).toInt)] M (fun r149 M150 => (0 ≤ l4 + 1 ∧ l4 + 1 < E.2.2.2.2.2.1) ∧ (0 ≤ l4 + 2 ∧ l4 + 2 < E.2.2.2.2.2.1) ∧ (zP E mX12_ash [.inr (.inr 102), .inl ((E.2.2.2.2.2.2 ((l4 + 1).toNat)).toInt), .inl ((E.2.2.2.2.2.2 ((l4 + 2).toNat)).toInt)] M150 (fun r151 M152 => ((zR r149 ∧ zR r151) ∧ ((r149 = r151 → ∃ n', n' < n ∧ I n' c s (l4 + 7) M152) ∧ (¬ r149 = r151 → Q 0 M152)))))))) ∧ ((zand ((E.2.2.2.2.2.2 (l4.toNat)).toInt) 31) = 27 → (0 ≤ l4 + 1 ∧ l4 + 1 < E.2.2.2.2.2.1) ∧ (0 ≤ l4 + 2 ∧ l4 + 2 < E.2.2.2.2.2.1) ∧ (zLook E ((E.2.2.2.2.2.2 ((l4 + 1).toNat)).toInt) ((E.2.2.2.2.2.2 ((l4 + 2).toNat)).toInt) M (fun r153 M154 => (0 ≤ l4 + 1 ∧ l4 + 1 < E.2.2.2.2.2.1) ∧ (0 ≤ l4 + 2 ∧ l4 + 2 < E.2.2.2.2.2.1) ∧ (zP E mX12_look [.inr (.inr 102), .inl ((E.2.2.2.2.2.2 ((l4 + 1).toNat)).toInt), .inl ((E.2.2.2.2.2.2 ((l4 + 2).toNat)).toInt)] M154 (fun r155 M156 => (zP E mX12_thrown [.inr (.inr 102)] M156 (fun r157 M158 => ((zR r157 ∧ zR r153) ∧ ((r157 = r153 → ((zR r153) ∧ ((¬ r153 = 0 → ∃ n', n' < n ∧ I n' (c + 2) (s + 40) (l4 + 7) M158) ∧ (r153 = 0 → zR r155 ∧ ((zL (M158 165 0) ∧ zL r155) ∧ (((M158 165 0) = r155 → ∃ n', n' < n ∧ I n' (c + 2) (s + 40) (l4 + 7) M158) ∧ (¬ (M158 165 0) = r155 → Q 0 M158))))))) ∧ (¬ r157 = r153 → Q 0 M158)))))))))) ∧ ((zand ((E.2.2.2.2.2.2 (l4.toNat)).toInt) 31) = 28 → (0 ≤ l4 + 1 ∧ l4 + 1 < E.2.2.2.2.2.1) ∧ (zP E mX11_count [.inr (.inr 0), .inl ((E.2.2.2.2.2.2 ((l4 + 1).toNat)).toInt)] M (fun r159 M160 => (0 ≤ l4 + 1 ∧ l4 + 1 < E.2.2.2.2.2.1) ∧ (zP E mX12_count [.inr (.inr 102), .inl ((E.2.2.2.2.2.2 ((l4 + 1).toNat)).toInt)] M160 (fun r161 M162 => ((zR r159 ∧ zR r161) ∧ ((r159 = r161 → ∃ n', n' < n ∧ I n' c s (l4 + 7) M162) ∧ (¬ r159 = r161 → Q 0 M162))))))))))))) :
    ∀ (n c s : Nat) (l4 : Int) (M : zM), I n c s l4 M → zA E zNN (c, s) mL_law 23 [(4, .inl l4), (3, .inr (.inr 165)), (2, .inr (.inr 102)), (1, .inr (.inr 0)), (0, .inr (.inr (-100)))] [] M (zQ Q) := by
  intro n
  induction n using Nat.strongRecOn with
  | ind n ih =>
    intro c s l4 M h
    obtain ⟨⟨kc2, ks2⟩, h⟩ := hI n c s l4 M h
    have kc : c ≤ 600002 := Nat.le_trans (Nat.le_add_right c 2) kc2
    have ks : s ≤ 7302232 := Nat.le_trans (Nat.le_add_right s 40) ks2
    have kcb : c + 2 ≤ 600002 := kc2
    have ksb : s + 40 ≤ 7302232 := ks2
    refine zr_iload (pc' := 25) dL_law_23 rfl rfl ?_
    refine zr_aload_n (pc' := 26) (i := 0) dL_law_25 rfl rfl rfl ?_
    refine zr_slen (pc' := 27) dL_law_26 rfl ?_
    refine zr_bipush (pc' := 29) dL_law_27 rfl rfl ?_
    refine zr_isub (pc' := 30) dL_law_29 rfl ?_
    refine zr_icmp_gt (tgt := 1477) (pc' := 33) dL_law_30 rfl rfl h.1.1 h.1.2 (fun hc => ?_) (fun hc => ?_)
    · have h := h.2.1 hc
      refine zr_iconst (pc' := 1478) dL_law_1477 rfl ?_
      exact zr_ireturn dL_law_1478 rfl rfl (Or.inr rfl) kc ks (And.intro rfl h)
    · have h := h.2.2 hc
      refine zr_aload_n (pc' := 34) (i := 0) dL_law_33 rfl rfl rfl ?_
      refine zr_iload (pc' := 36) dL_law_34 rfl rfl ?_
      refine zr_sld (pc' := 37) dL_law_36 rfl hL h.1.1 h.1.2 ?_
      have h := h.2
      refine zr_bipush (pc' := 39) dL_law_37 rfl rfl ?_
      refine zr_iand (pc' := 40) dL_law_39 rfl ?_
      by_cases hsw : (zand ((E.2.2.2.2.2.2 (l4.toNat)).toInt) 31) < 0 ∨ 28 < (zand ((E.2.2.2.2.2.2 (l4.toNat)).toInt) 31)
      · refine zr_tableOut (tgt := 1471) dL_law_40 h.1 hsw rfl ?_
        have h := h.2.1 hsw
        refine zr_iinc (pc' := 1474) (al' := [(4, .inl (l4 + 7)), (3, .inr (.inr 165)), (2, .inr (.inr 102)), (1, .inr (.inr 0)), (0, .inr (.inr (-100)))]) dL_law_1471 rfl rfl (by decide) rfl ?_
        refine zr_goto (pc' := 23) dL_law_1474 rfl ?_
        obtain ⟨n', hn, h⟩ := h
        exact zl_al (ih n' hn _ _ _ _ h) ⟨rfl, rfl, rfl, rfl, rfl, trivial⟩
      · have hsx : (zand ((E.2.2.2.2.2.2 (l4.toNat)).toInt) 31) = 0 ∨ (zand ((E.2.2.2.2.2.2 (l4.toNat)).toInt) 31) = 1 ∨ (zand ((E.2.2.2.2.2.2 (l4.toNat)).toInt) 31) = 2 ∨ (zand ((E.2.2.2.2.2.2 (l4.toNat)).toInt) 31) = 3 ∨ (zand ((E.2.2.2.2.2.2 (l4.toNat)).toInt) 31) = 4 ∨ (zand ((E.2.2.2.2.2.2 (l4.toNat)).toInt) 31) = 5 ∨ (zand ((E.2.2.2.2.2.2 (l4.toNat)).toInt) 31) = 6 ∨ (zand ((E.2.2.2.2.2.2 (l4.toNat)).toInt) 31) = 7 ∨ (zand ((E.2.2.2.2.2.2 (l4.toNat)).toInt) 31) = 8 ∨ (zand ((E.2.2.2.2.2.2 (l4.toNat)).toInt) 31) = 9 ∨ (zand ((E.2.2.2.2.2.2 (l4.toNat)).toInt) 31) = 10 ∨ (zand ((E.2.2.2.2.2.2 (l4.toNat)).toInt) 31) = 11 ∨ (zand ((E.2.2.2.2.2.2 (l4.toNat)).toInt) 31) = 12 ∨ (zand ((E.2.2.2.2.2.2 (l4.toNat)).toInt) 31) = 13 ∨ (zand ((E.2.2.2.2.2.2 (l4.toNat)).toInt) 31) = 14 ∨ (zand ((E.2.2.2.2.2.2 (l4.toNat)).toInt) 31) = 15 ∨ (zand ((E.2.2.2.2.2.2 (l4.toNat)).toInt) 31) = 16 ∨ (zand ((E.2.2.2.2.2.2 (l4.toNat)).toInt) 31) = 17 ∨ (zand ((E.2.2.2.2.2.2 (l4.toNat)).toInt) 31) = 18 ∨ (zand ((E.2.2.2.2.2.2 (l4.toNat)).toInt) 31) = 19 ∨ (zand ((E.2.2.2.2.2.2 (l4.toNat)).toInt) 31) = 20 ∨ (zand ((E.2.2.2.2.2.2 (l4.toNat)).toInt) 31) = 21 ∨ (zand ((E.2.2.2.2.2.2 (l4.toNat)).toInt) 31) = 22 ∨ (zand ((E.2.2.2.2.2.2 (l4.toNat)).toInt) 31) = 23 ∨ (zand ((E.2.2.2.2.2.2 (l4.toNat)).toInt) 31) = 24 ∨ (zand ((E.2.2.2.2.2.2 (l4.toNat)).toInt) 31) = 25 ∨ (zand ((E.2.2.2.2.2.2 (l4.toNat)).toInt) 31) = 26 ∨ (zand ((E.2.2.2.2.2.2 (l4.toNat)).toInt) 31) = 27 ∨ (zand ((E.2.2.2.2.2.2 (l4.toNat)).toInt) 31) = 28 := by omega
        rcases hsx with hsx | hsx | hsx | hsx | hsx | hsx | hsx | hsx | hsx | hsx | hsx | hsx | hsx | hsx | hsx | hsx | hsx | hsx | hsx | hsx | hsx | hsx | hsx | hsx | hsx | hsx | hsx | hsx | hsx
        · refine zr_tableIn (off := 132) (tgt := 172) dL_law_40 h.1 (by omega) (by omega) (by rw [hsx]; rfl) rfl ?_
          have h := h.2.2.1 hsx
          refine zr_aload_n (pc' := 173) (i := 1) dL_law_172 rfl rfl rfl ?_
          refine zr_aload_n (pc' := 174) (i := 0) dL_law_173 rfl rfl rfl ?_
          refine zr_iload (pc' := 176) dL_law_174 rfl rfl ?_
          refine zr_iconst (pc' := 177) dL_law_176 rfl ?_
          refine zr_iadd (pc' := 178) dL_law_177 rfl ?_
          refine zr_sld (pc' := 179) dL_law_178 rfl hL h.1.1 h.1.2 ?_
          have h := h.2
          refine zr_aload_n (pc' := 180) (i := 0) dL_law_179 rfl rfl rfl ?_
          refine zr_iload (pc' := 182) dL_law_180 rfl rfl ?_
          refine zr_iconst (pc' := 183) dL_law_182 rfl ?_
          refine zr_iadd (pc' := 184) dL_law_183 rfl ?_
          refine zr_sld (pc' := 185) dL_law_184 rfl hL h.1.1 h.1.2 ?_
          have h := h.2
          refine zr_aload_n (pc' := 186) (i := 0) dL_law_185 rfl rfl rfl ?_
          refine zr_iload (pc' := 188) dL_law_186 rfl rfl ?_
          refine zr_iconst (pc' := 189) dL_law_188 rfl ?_
          refine zr_iadd (pc' := 190) dL_law_189 rfl ?_
          refine zr_sld (pc' := 191) dL_law_190 rfl hL h.1.1 h.1.2 ?_
          have h := h.2
          refine zr_aload_n (pc' := 192) (i := 0) dL_law_191 rfl rfl rfl ?_
          refine zr_iload (pc' := 194) dL_law_192 rfl rfl ?_
          refine zr_iconst (pc' := 195) dL_law_194 rfl ?_
          refine zr_iadd (pc' := 196) dL_law_195 rfl ?_
          refine zr_sld (pc' := 197) dL_law_196 rfl hL h.1.1 h.1.2 ?_
          have h := h.2
          refine zr_aload_n (pc' := 198) (i := 0) dL_law_197 rfl rfl rfl ?_
          refine zr_iload (pc' := 200) dL_law_198 rfl rfl ?_
          refine zr_iconst (pc' := 201) dL_law_200 rfl ?_
          refine zr_iadd (pc' := 202) dL_law_201 rfl ?_
          refine zr_sld (pc' := 203) dL_law_202 rfl hL h.1.1 h.1.2 ?_
          have h := h.2
          refine zl_callV (pc' := 206) (args := [.inl ((E.2.2.2.2.2.2 ((l4 + 1).toNat)).toInt), .inl ((E.2.2.2.2.2.2 ((l4 + 2).toNat)).toInt), .inl ((E.2.2.2.2.2.2 ((l4 + 3).toNat)).toInt), .inl ((E.2.2.2.2.2.2 ((l4 + 4).toNat)).toInt), .inl ((E.2.2.2.2.2.2 ((l4 + 5).toNat)).toInt)]) (st := []) (st' := fun r1 => [.inl r1]) dL_law_203 rfl cv_L_21 ⟨rfl, rfl, by decide, by decide⟩ rfl ps_0 kd_0 rfl rfl (Nat.le_of_ble_eq_true rfl) (fun _ => rfl) kc ks h ?_
          intro r1 M2 h
          refine zr_aload_n (pc' := 207) (i := 2) dL_law_206 rfl rfl rfl ?_
          refine zr_aload_n (pc' := 208) (i := 0) dL_law_207 rfl rfl rfl ?_
          refine zr_iload (pc' := 210) dL_law_208 rfl rfl ?_
          refine zr_iconst (pc' := 211) dL_law_210 rfl ?_
          refine zr_iadd (pc' := 212) dL_law_211 rfl ?_
          refine zr_sld (pc' := 213) dL_law_212 rfl hL h.1.1 h.1.2 ?_
          have h := h.2
          refine zr_aload_n (pc' := 214) (i := 0) dL_law_213 rfl rfl rfl ?_
          refine zr_iload (pc' := 216) dL_law_214 rfl rfl ?_
          refine zr_iconst (pc' := 217) dL_law_216 rfl ?_
          refine zr_iadd (pc' := 218) dL_law_217 rfl ?_
          refine zr_sld (pc' := 219) dL_law_218 rfl hL h.1.1 h.1.2 ?_
          have h := h.2
          refine zr_aload_n (pc' := 220) (i := 0) dL_law_219 rfl rfl rfl ?_
          refine zr_iload (pc' := 222) dL_law_220 rfl rfl ?_
          refine zr_iconst (pc' := 223) dL_law_222 rfl ?_
          refine zr_iadd (pc' := 224) dL_law_223 rfl ?_
          refine zr_sld (pc' := 225) dL_law_224 rfl hL h.1.1 h.1.2 ?_
          have h := h.2
          refine zr_aload_n (pc' := 226) (i := 0) dL_law_225 rfl rfl rfl ?_
          refine zr_iload (pc' := 228) dL_law_226 rfl rfl ?_
          refine zr_iconst (pc' := 229) dL_law_228 rfl ?_
          refine zr_iadd (pc' := 230) dL_law_229 rfl ?_
          refine zr_sld (pc' := 231) dL_law_230 rfl hL h.1.1 h.1.2 ?_
          have h := h.2
          refine zr_aload_n (pc' := 232) (i := 0) dL_law_231 rfl rfl rfl ?_
          refine zr_iload (pc' := 234) dL_law_232 rfl rfl ?_
          refine zr_iconst (pc' := 235) dL_law_234 rfl ?_
          refine zr_iadd (pc' := 236) dL_law_235 rfl ?_
          refine zr_sld (pc' := 237) dL_law_236 rfl hL h.1.1 h.1.2 ?_
          have h := h.2
          refine zl_callV (pc' := 240) (args := [.inl ((E.2.2.2.2.2.2 ((l4 + 1).toNat)).toInt), .inl ((E.2.2.2.2.2.2 ((l4 + 2).toNat)).toInt), .inl ((E.2.2.2.2.2.2 ((l4 + 3).toNat)).toInt), .inl ((E.2.2.2.2.2.2 ((l4 + 4).toNat)).toInt), .inl ((E.2.2.2.2.2.2 ((l4 + 5).toNat)).toInt)]) (st := [.inl r1]) (st' := fun r3 => [.inl r3, .inl r1]) dL_law_237 rfl cv_L_25 ⟨rfl, rfl, by decide, by decide⟩ rfl ps_102 kd_102 rfl rfl (Nat.le_of_ble_eq_true rfl) (fun _ => rfl) kc ks h ?_
          intro r3 M4 h
          refine zr_icmp_eq (tgt := 1471) (pc' := 243) dL_law_240 rfl rfl h.1.1 h.1.2 (fun hc => ?_) (fun hc => ?_)
          · have h := h.2.1 hc
            refine zr_iinc (pc' := 1474) (al' := [(4, .inl (l4 + 7)), (3, .inr (.inr 165)), (2, .inr (.inr 102)), (1, .inr (.inr 0)), (0, .inr (.inr (-100)))]) dL_law_1471 rfl rfl (by decide) rfl ?_
            refine zr_goto (pc' := 23) dL_law_1474 rfl ?_
            obtain ⟨n', hn, h⟩ := h
            exact zl_al (ih n' hn _ _ _ _ h) ⟨rfl, rfl, rfl, rfl, rfl, trivial⟩
          · have h := h.2.2 hc
            refine zr_iconst (pc' := 244) dL_law_243 rfl ?_
            exact zr_ireturn dL_law_244 rfl rfl (Or.inl rfl) kc ks (And.intro rfl h)
        · refine zr_tableIn (off := 205) (tgt := 245) dL_law_40 h.1 (by omega) (by omega) (by rw [hsx]; rfl) rfl ?_
          have h := h.2.2.2.1 hsx
          refine zr_aload_n (pc' := 246) (i := 1) dL_law_245 rfl rfl rfl ?_
          refine zr_aload_n (pc' := 247) (i := 0) dL_law_246 rfl rfl rfl ?_
          refine zr_iload (pc' := 249) dL_law_247 rfl rfl ?_
          refine zr_iconst (pc' := 250) dL_law_249 rfl ?_
          refine zr_iadd (pc' := 251) dL_law_250 rfl ?_
          refine zr_sld (pc' := 252) dL_law_251 rfl hL h.1.1 h.1.2 ?_
          have h := h.2
          refine zl_callV (pc' := 255) (args := [.inl ((E.2.2.2.2.2.2 ((l4 + 1).toNat)).toInt)]) (st := []) (st' := fun r5 => [.inl r5]) dL_law_252 rfl cv_L_26 ⟨rfl, rfl, by decide, by decide⟩ rfl ps_0 kd_0 rfl rfl (Nat.le_of_ble_eq_true rfl) (fun _ => rfl) kc ks h ?_
          intro r5 M6 h
          refine zr_aload_n (pc' := 256) (i := 2) dL_law_255 rfl rfl rfl ?_
          refine zr_aload_n (pc' := 257) (i := 0) dL_law_256 rfl rfl rfl ?_
          refine zr_iload (pc' := 259) dL_law_257 rfl rfl ?_
          refine zr_iconst (pc' := 260) dL_law_259 rfl ?_
          refine zr_iadd (pc' := 261) dL_law_260 rfl ?_
          refine zr_sld (pc' := 262) dL_law_261 rfl hL h.1.1 h.1.2 ?_
          have h := h.2
          refine zl_callV (pc' := 265) (args := [.inl ((E.2.2.2.2.2.2 ((l4 + 1).toNat)).toInt)]) (st := [.inl r5]) (st' := fun r7 => [.inl r7, .inl r5]) dL_law_262 rfl cv_L_30 ⟨rfl, rfl, by decide, by decide⟩ rfl ps_102 kd_102 rfl rfl (Nat.le_of_ble_eq_true rfl) (fun _ => rfl) kc ks h ?_
          intro r7 M8 h
          refine zr_icmp_eq (tgt := 1471) (pc' := 268) dL_law_265 rfl rfl h.1.1 h.1.2 (fun hc => ?_) (fun hc => ?_)
          · have h := h.2.1 hc
            refine zr_iinc (pc' := 1474) (al' := [(4, .inl (l4 + 7)), (3, .inr (.inr 165)), (2, .inr (.inr 102)), (1, .inr (.inr 0)), (0, .inr (.inr (-100)))]) dL_law_1471 rfl rfl (by decide) rfl ?_
            refine zr_goto (pc' := 23) dL_law_1474 rfl ?_
            obtain ⟨n', hn, h⟩ := h
            exact zl_al (ih n' hn _ _ _ _ h) ⟨rfl, rfl, rfl, rfl, rfl, trivial⟩
          · have h := h.2.2 hc
            refine zr_iconst (pc' := 269) dL_law_268 rfl ?_
            exact zr_ireturn dL_law_269 rfl rfl (Or.inl rfl) kc ks (And.intro rfl h)
        · refine zr_tableIn (off := 230) (tgt := 270) dL_law_40 h.1 (by omega) (by omega) (by rw [hsx]; rfl) rfl ?_
          have h := h.2.2.2.2.1 hsx
          refine zr_aload_n (pc' := 271) (i := 1) dL_law_270 rfl rfl rfl ?_
          refine zr_aload_n (pc' := 272) (i := 0) dL_law_271 rfl rfl rfl ?_
          refine zr_iload (pc' := 274) dL_law_272 rfl rfl ?_
          refine zr_iconst (pc' := 275) dL_law_274 rfl ?_
          refine zr_iadd (pc' := 276) dL_law_275 rfl ?_
          refine zr_sld (pc' := 277) dL_law_276 rfl hL h.1.1 h.1.2 ?_
          have h := h.2
          refine zl_callV (pc' := 280) (args := [.inl ((E.2.2.2.2.2.2 ((l4 + 1).toNat)).toInt)]) (st := []) (st' := fun r9 => [.inl r9]) dL_law_277 rfl cv_L_31 ⟨rfl, rfl, by decide, by decide⟩ rfl ps_0 kd_0 rfl rfl (Nat.le_of_ble_eq_true rfl) (fun _ => rfl) kc ks h ?_
          intro r9 M10 h
          refine zr_aload_n (pc' := 281) (i := 2) dL_law_280 rfl rfl rfl ?_
          refine zr_aload_n (pc' := 282) (i := 0) dL_law_281 rfl rfl rfl ?_
          refine zr_iload (pc' := 284) dL_law_282 rfl rfl ?_
          refine zr_iconst (pc' := 285) dL_law_284 rfl ?_
          refine zr_iadd (pc' := 286) dL_law_285 rfl ?_
          refine zr_sld (pc' := 287) dL_law_286 rfl hL h.1.1 h.1.2 ?_
          have h := h.2
          refine zl_callV (pc' := 290) (args := [.inl ((E.2.2.2.2.2.2 ((l4 + 1).toNat)).toInt)]) (st := [.inl r9]) (st' := fun r11 => [.inl r11, .inl r9]) dL_law_287 rfl cv_L_34 ⟨rfl, rfl, by decide, by decide⟩ rfl ps_102 kd_102 rfl rfl (Nat.le_of_ble_eq_true rfl) (fun _ => rfl) kc ks h ?_
          intro r11 M12 h
          refine zr_icmp_eq (tgt := 1471) (pc' := 293) dL_law_290 rfl rfl h.1.1 h.1.2 (fun hc => ?_) (fun hc => ?_)
          · have h := h.2.1 hc
            refine zr_iinc (pc' := 1474) (al' := [(4, .inl (l4 + 7)), (3, .inr (.inr 165)), (2, .inr (.inr 102)), (1, .inr (.inr 0)), (0, .inr (.inr (-100)))]) dL_law_1471 rfl rfl (by decide) rfl ?_
            refine zr_goto (pc' := 23) dL_law_1474 rfl ?_
            obtain ⟨n', hn, h⟩ := h
            exact zl_al (ih n' hn _ _ _ _ h) ⟨rfl, rfl, rfl, rfl, rfl, trivial⟩
          · have h := h.2.2 hc
            refine zr_iconst (pc' := 294) dL_law_293 rfl ?_
            exact zr_ireturn dL_law_294 rfl rfl (Or.inl rfl) kc ks (And.intro rfl h)
        · refine zr_tableIn (off := 255) (tgt := 295) dL_law_40 h.1 (by omega) (by omega) (by rw [hsx]; rfl) rfl ?_
          have h := h.2.2.2.2.2.1 hsx
          refine zr_aload_n (pc' := 296) (i := 1) dL_law_295 rfl rfl rfl ?_
          refine zr_aload_n (pc' := 297) (i := 0) dL_law_296 rfl rfl rfl ?_
          refine zr_iload (pc' := 299) dL_law_297 rfl rfl ?_
          refine zr_iconst (pc' := 300) dL_law_299 rfl ?_
          refine zr_iadd (pc' := 301) dL_law_300 rfl ?_
          refine zr_sld (pc' := 302) dL_law_301 rfl hL h.1.1 h.1.2 ?_
          have h := h.2
          refine zl_callV (pc' := 305) (args := [.inl ((E.2.2.2.2.2.2 ((l4 + 1).toNat)).toInt)]) (st := []) (st' := fun r13 => [.inl r13]) dL_law_302 rfl cv_L_35 ⟨rfl, rfl, by decide, by decide⟩ rfl ps_0 kd_0 rfl rfl (Nat.le_of_ble_eq_true rfl) (fun _ => rfl) kc ks h ?_
          intro r13 M14 h
          refine zr_aload_n (pc' := 306) (i := 2) dL_law_305 rfl rfl rfl ?_
          refine zr_aload_n (pc' := 307) (i := 0) dL_law_306 rfl rfl rfl ?_
          refine zr_iload (pc' := 309) dL_law_307 rfl rfl ?_
          refine zr_iconst (pc' := 310) dL_law_309 rfl ?_
          refine zr_iadd (pc' := 311) dL_law_310 rfl ?_
          refine zr_sld (pc' := 312) dL_law_311 rfl hL h.1.1 h.1.2 ?_
          have h := h.2
          refine zl_callV (pc' := 315) (args := [.inl ((E.2.2.2.2.2.2 ((l4 + 1).toNat)).toInt)]) (st := [.inl r13]) (st' := fun r15 => [.inl r15, .inl r13]) dL_law_312 rfl cv_L_38 ⟨rfl, rfl, by decide, by decide⟩ rfl ps_102 kd_102 rfl rfl (Nat.le_of_ble_eq_true rfl) (fun _ => rfl) kc ks h ?_
          intro r15 M16 h
          refine zr_icmp_eq (tgt := 1471) (pc' := 318) dL_law_315 rfl rfl h.1.1 h.1.2 (fun hc => ?_) (fun hc => ?_)
          · have h := h.2.1 hc
            refine zr_iinc (pc' := 1474) (al' := [(4, .inl (l4 + 7)), (3, .inr (.inr 165)), (2, .inr (.inr 102)), (1, .inr (.inr 0)), (0, .inr (.inr (-100)))]) dL_law_1471 rfl rfl (by decide) rfl ?_
            refine zr_goto (pc' := 23) dL_law_1474 rfl ?_
            obtain ⟨n', hn, h⟩ := h
            exact zl_al (ih n' hn _ _ _ _ h) ⟨rfl, rfl, rfl, rfl, rfl, trivial⟩
          · have h := h.2.2 hc
            refine zr_iconst (pc' := 319) dL_law_318 rfl ?_
            exact zr_ireturn dL_law_319 rfl rfl (Or.inl rfl) kc ks (And.intro rfl h)
        · refine zr_tableIn (off := 280) (tgt := 320) dL_law_40 h.1 (by omega) (by omega) (by rw [hsx]; rfl) rfl ?_
          have h := h.2.2.2.2.2.2.1 hsx
          refine zr_aload_n (pc' := 321) (i := 1) dL_law_320 rfl rfl rfl ?_
          refine zr_aload_n (pc' := 322) (i := 0) dL_law_321 rfl rfl rfl ?_
          refine zr_iload (pc' := 324) dL_law_322 rfl rfl ?_
          refine zr_iconst (pc' := 325) dL_law_324 rfl ?_
          refine zr_iadd (pc' := 326) dL_law_325 rfl ?_
          refine zr_sld (pc' := 327) dL_law_326 rfl hL h.1.1 h.1.2 ?_
          have h := h.2
          refine zl_callV (pc' := 330) (args := [.inl ((E.2.2.2.2.2.2 ((l4 + 1).toNat)).toInt)]) (st := []) (st' := fun r17 => [.inl r17]) dL_law_327 rfl cv_L_39 ⟨rfl, rfl, by decide, by decide⟩ rfl ps_0 kd_0 rfl rfl (Nat.le_of_ble_eq_true rfl) (fun _ => rfl) kc ks h ?_
          intro r17 M18 h
          refine zr_aload_n (pc' := 331) (i := 2) dL_law_330 rfl rfl rfl ?_
          refine zr_aload_n (pc' := 332) (i := 0) dL_law_331 rfl rfl rfl ?_
          refine zr_iload (pc' := 334) dL_law_332 rfl rfl ?_
          refine zr_iconst (pc' := 335) dL_law_334 rfl ?_
          refine zr_iadd (pc' := 336) dL_law_335 rfl ?_
          refine zr_sld (pc' := 337) dL_law_336 rfl hL h.1.1 h.1.2 ?_
          have h := h.2
          refine zl_callV (pc' := 340) (args := [.inl ((E.2.2.2.2.2.2 ((l4 + 1).toNat)).toInt)]) (st := [.inl r17]) (st' := fun r19 => [.inl r19, .inl r17]) dL_law_337 rfl cv_L_42 ⟨rfl, rfl, by decide, by decide⟩ rfl ps_102 kd_102 rfl rfl (Nat.le_of_ble_eq_true rfl) (fun _ => rfl) kc ks h ?_
          intro r19 M20 h
          refine zr_icmp_eq (tgt := 1471) (pc' := 343) dL_law_340 rfl rfl h.1.1 h.1.2 (fun hc => ?_) (fun hc => ?_)
          · have h := h.2.1 hc
            refine zr_iinc (pc' := 1474) (al' := [(4, .inl (l4 + 7)), (3, .inr (.inr 165)), (2, .inr (.inr 102)), (1, .inr (.inr 0)), (0, .inr (.inr (-100)))]) dL_law_1471 rfl rfl (by decide) rfl ?_
            refine zr_goto (pc' := 23) dL_law_1474 rfl ?_
            obtain ⟨n', hn, h⟩ := h
            exact zl_al (ih n' hn _ _ _ _ h) ⟨rfl, rfl, rfl, rfl, rfl, trivial⟩
          · have h := h.2.2 hc
            refine zr_iconst (pc' := 344) dL_law_343 rfl ?_
            exact zr_ireturn dL_law_344 rfl rfl (Or.inl rfl) kc ks (And.intro rfl h)
        · refine zr_tableIn (off := 305) (tgt := 345) dL_law_40 h.1 (by omega) (by omega) (by rw [hsx]; rfl) rfl ?_
          have h := h.2.2.2.2.2.2.2.1 hsx
          refine zr_aload_n (pc' := 346) (i := 1) dL_law_345 rfl rfl rfl ?_
          refine zr_aload_n (pc' := 347) (i := 0) dL_law_346 rfl rfl rfl ?_
          refine zr_iload (pc' := 349) dL_law_347 rfl rfl ?_
          refine zr_iconst (pc' := 350) dL_law_349 rfl ?_
          refine zr_iadd (pc' := 351) dL_law_350 rfl ?_
          refine zr_sld (pc' := 352) dL_law_351 rfl hL h.1.1 h.1.2 ?_
          have h := h.2
          refine zr_aload_n (pc' := 353) (i := 0) dL_law_352 rfl rfl rfl ?_
          refine zr_iload (pc' := 355) dL_law_353 rfl rfl ?_
          refine zr_iconst (pc' := 356) dL_law_355 rfl ?_
          refine zr_iadd (pc' := 357) dL_law_356 rfl ?_
          refine zr_sld (pc' := 358) dL_law_357 rfl hL h.1.1 h.1.2 ?_
          have h := h.2
          refine zr_aload_n (pc' := 359) (i := 0) dL_law_358 rfl rfl rfl ?_
          refine zr_iload (pc' := 361) dL_law_359 rfl rfl ?_
          refine zr_iconst (pc' := 362) dL_law_361 rfl ?_
          refine zr_iadd (pc' := 363) dL_law_362 rfl ?_
          refine zr_sld (pc' := 364) dL_law_363 rfl hL h.1.1 h.1.2 ?_
          have h := h.2
          refine zr_aload_n (pc' := 365) (i := 0) dL_law_364 rfl rfl rfl ?_
          refine zr_iload (pc' := 367) dL_law_365 rfl rfl ?_
          refine zr_iconst (pc' := 368) dL_law_367 rfl ?_
          refine zr_iadd (pc' := 369) dL_law_368 rfl ?_
          refine zr_sld (pc' := 370) dL_law_369 rfl hL h.1.1 h.1.2 ?_
          have h := h.2
          refine zr_if_eq (tgt := 377) (pc' := 373) dL_law_370 rfl rfl h.1 (fun hc => ?_) (fun hc => ?_)
          · have h := h.2.1 hc
            refine zr_iconst (pc' := 378) dL_law_377 rfl ?_
            refine zl_callV (pc' := 381) (args := [.inl ((E.2.2.2.2.2.2 ((l4 + 1).toNat)).toInt), .inl ((E.2.2.2.2.2.2 ((l4 + 2).toNat)).toInt), .inl ((E.2.2.2.2.2.2 ((l4 + 3).toNat)).toInt), .inl 0]) (st := []) (st' := fun r21 => [.inl r21]) dL_law_378 rfl cv_L_43 ⟨rfl, rfl, by decide, by decide⟩ rfl ps_0 kd_0 rfl rfl (Nat.le_of_ble_eq_true rfl) (fun _ => rfl) kc ks h ?_
            intro r21 M22 h
            refine zr_aload_n (pc' := 382) (i := 2) dL_law_381 rfl rfl rfl ?_
            refine zr_aload_n (pc' := 383) (i := 0) dL_law_382 rfl rfl rfl ?_
            refine zr_iload (pc' := 385) dL_law_383 rfl rfl ?_
            refine zr_iconst (pc' := 386) dL_law_385 rfl ?_
            refine zr_iadd (pc' := 387) dL_law_386 rfl ?_
            refine zr_sld (pc' := 388) dL_law_387 rfl hL h.1.1 h.1.2 ?_
            have h := h.2
            refine zr_aload_n (pc' := 389) (i := 0) dL_law_388 rfl rfl rfl ?_
            refine zr_iload (pc' := 391) dL_law_389 rfl rfl ?_
            refine zr_iconst (pc' := 392) dL_law_391 rfl ?_
            refine zr_iadd (pc' := 393) dL_law_392 rfl ?_
            refine zr_sld (pc' := 394) dL_law_393 rfl hL h.1.1 h.1.2 ?_
            have h := h.2
            refine zr_aload_n (pc' := 395) (i := 0) dL_law_394 rfl rfl rfl ?_
            refine zr_iload (pc' := 397) dL_law_395 rfl rfl ?_
            refine zr_iconst (pc' := 398) dL_law_397 rfl ?_
            refine zr_iadd (pc' := 399) dL_law_398 rfl ?_
            refine zr_sld (pc' := 400) dL_law_399 rfl hL h.1.1 h.1.2 ?_
            have h := h.2
            refine zr_aload_n (pc' := 401) (i := 0) dL_law_400 rfl rfl rfl ?_
            refine zr_iload (pc' := 403) dL_law_401 rfl rfl ?_
            refine zr_iconst (pc' := 404) dL_law_403 rfl ?_
            refine zr_iadd (pc' := 405) dL_law_404 rfl ?_
            refine zr_sld (pc' := 406) dL_law_405 rfl hL h.1.1 h.1.2 ?_
            have h := h.2
            refine zr_if_eq (tgt := 413) (pc' := 409) dL_law_406 rfl rfl h.1 (fun hc => ?_) (fun hc => ?_)
            · have h := h.2.1 hc
              refine zr_iconst (pc' := 414) dL_law_413 rfl ?_
              refine zl_callV (pc' := 417) (args := [.inl ((E.2.2.2.2.2.2 ((l4 + 1).toNat)).toInt), .inl ((E.2.2.2.2.2.2 ((l4 + 2).toNat)).toInt), .inl ((E.2.2.2.2.2.2 ((l4 + 3).toNat)).toInt), .inl 0]) (st := [.inl r21]) (st' := fun r23 => [.inl r23, .inl r21]) dL_law_414 rfl cv_L_47 ⟨rfl, rfl, by decide, by decide⟩ rfl ps_102 kd_102 rfl rfl (Nat.le_of_ble_eq_true rfl) (fun _ => rfl) kc ks h ?_
              intro r23 M24 h
              refine zr_icmp_eq (tgt := 1471) (pc' := 420) dL_law_417 rfl rfl h.1.1 h.1.2 (fun hc => ?_) (fun hc => ?_)
              · have h := h.2.1 hc
                refine zr_iinc (pc' := 1474) (al' := [(4, .inl (l4 + 7)), (3, .inr (.inr 165)), (2, .inr (.inr 102)), (1, .inr (.inr 0)), (0, .inr (.inr (-100)))]) dL_law_1471 rfl rfl (by decide) rfl ?_
                refine zr_goto (pc' := 23) dL_law_1474 rfl ?_
                obtain ⟨n', hn, h⟩ := h
                exact zl_al (ih n' hn _ _ _ _ h) ⟨rfl, rfl, rfl, rfl, rfl, trivial⟩
              · have h := h.2.2 hc
                refine zr_iconst (pc' := 421) dL_law_420 rfl ?_
                exact zr_ireturn dL_law_421 rfl rfl (Or.inl rfl) kc ks (And.intro rfl h)
            · have h := h.2.2 hc
              refine zr_iconst (pc' := 410) dL_law_409 rfl ?_
              refine zr_goto (pc' := 414) dL_law_410 rfl ?_
              refine zl_callV (pc' := 417) (args := [.inl ((E.2.2.2.2.2.2 ((l4 + 1).toNat)).toInt), .inl ((E.2.2.2.2.2.2 ((l4 + 2).toNat)).toInt), .inl ((E.2.2.2.2.2.2 ((l4 + 3).toNat)).toInt), .inl 1]) (st := [.inl r21]) (st' := fun r25 => [.inl r25, .inl r21]) dL_law_414 rfl cv_L_47 ⟨rfl, rfl, by decide, by decide⟩ rfl ps_102 kd_102 rfl rfl (Nat.le_of_ble_eq_true rfl) (fun _ => rfl) kc ks h ?_
              intro r25 M26 h
              refine zr_icmp_eq (tgt := 1471) (pc' := 420) dL_law_417 rfl rfl h.1.1 h.1.2 (fun hc => ?_) (fun hc => ?_)
              · have h := h.2.1 hc
                refine zr_iinc (pc' := 1474) (al' := [(4, .inl (l4 + 7)), (3, .inr (.inr 165)), (2, .inr (.inr 102)), (1, .inr (.inr 0)), (0, .inr (.inr (-100)))]) dL_law_1471 rfl rfl (by decide) rfl ?_
                refine zr_goto (pc' := 23) dL_law_1474 rfl ?_
                obtain ⟨n', hn, h⟩ := h
                exact zl_al (ih n' hn _ _ _ _ h) ⟨rfl, rfl, rfl, rfl, rfl, trivial⟩
              · have h := h.2.2 hc
                refine zr_iconst (pc' := 421) dL_law_420 rfl ?_
                exact zr_ireturn dL_law_421 rfl rfl (Or.inl rfl) kc ks (And.intro rfl h)
          · have h := h.2.2 hc
            refine zr_iconst (pc' := 374) dL_law_373 rfl ?_
            refine zr_goto (pc' := 378) dL_law_374 rfl ?_
            refine zl_callV (pc' := 381) (args := [.inl ((E.2.2.2.2.2.2 ((l4 + 1).toNat)).toInt), .inl ((E.2.2.2.2.2.2 ((l4 + 2).toNat)).toInt), .inl ((E.2.2.2.2.2.2 ((l4 + 3).toNat)).toInt), .inl 1]) (st := []) (st' := fun r27 => [.inl r27]) dL_law_378 rfl cv_L_43 ⟨rfl, rfl, by decide, by decide⟩ rfl ps_0 kd_0 rfl rfl (Nat.le_of_ble_eq_true rfl) (fun _ => rfl) kc ks h ?_
            intro r27 M28 h
            refine zr_aload_n (pc' := 382) (i := 2) dL_law_381 rfl rfl rfl ?_
            refine zr_aload_n (pc' := 383) (i := 0) dL_law_382 rfl rfl rfl ?_
            refine zr_iload (pc' := 385) dL_law_383 rfl rfl ?_
            refine zr_iconst (pc' := 386) dL_law_385 rfl ?_
            refine zr_iadd (pc' := 387) dL_law_386 rfl ?_
            refine zr_sld (pc' := 388) dL_law_387 rfl hL h.1.1 h.1.2 ?_
            have h := h.2
            refine zr_aload_n (pc' := 389) (i := 0) dL_law_388 rfl rfl rfl ?_
            refine zr_iload (pc' := 391) dL_law_389 rfl rfl ?_
            refine zr_iconst (pc' := 392) dL_law_391 rfl ?_
            refine zr_iadd (pc' := 393) dL_law_392 rfl ?_
            refine zr_sld (pc' := 394) dL_law_393 rfl hL h.1.1 h.1.2 ?_
            have h := h.2
            refine zr_aload_n (pc' := 395) (i := 0) dL_law_394 rfl rfl rfl ?_
            refine zr_iload (pc' := 397) dL_law_395 rfl rfl ?_
            refine zr_iconst (pc' := 398) dL_law_397 rfl ?_
            refine zr_iadd (pc' := 399) dL_law_398 rfl ?_
            refine zr_sld (pc' := 400) dL_law_399 rfl hL h.1.1 h.1.2 ?_
            have h := h.2
            refine zr_aload_n (pc' := 401) (i := 0) dL_law_400 rfl rfl rfl ?_
            refine zr_iload (pc' := 403) dL_law_401 rfl rfl ?_
            refine zr_iconst (pc' := 404) dL_law_403 rfl ?_
            refine zr_iadd (pc' := 405) dL_law_404 rfl ?_
            refine zr_sld (pc' := 406) dL_law_405 rfl hL h.1.1 h.1.2 ?_
            have h := h.2
            refine zr_if_eq (tgt := 413) (pc' := 409) dL_law_406 rfl rfl h.1 (fun hc => ?_) (fun hc => ?_)
            · have h := h.2.1 hc
              refine zr_iconst (pc' := 414) dL_law_413 rfl ?_
              refine zl_callV (pc' := 417) (args := [.inl ((E.2.2.2.2.2.2 ((l4 + 1).toNat)).toInt), .inl ((E.2.2.2.2.2.2 ((l4 + 2).toNat)).toInt), .inl ((E.2.2.2.2.2.2 ((l4 + 3).toNat)).toInt), .inl 0]) (st := [.inl r27]) (st' := fun r29 => [.inl r29, .inl r27]) dL_law_414 rfl cv_L_47 ⟨rfl, rfl, by decide, by decide⟩ rfl ps_102 kd_102 rfl rfl (Nat.le_of_ble_eq_true rfl) (fun _ => rfl) kc ks h ?_
              intro r29 M30 h
              refine zr_icmp_eq (tgt := 1471) (pc' := 420) dL_law_417 rfl rfl h.1.1 h.1.2 (fun hc => ?_) (fun hc => ?_)
              · have h := h.2.1 hc
                refine zr_iinc (pc' := 1474) (al' := [(4, .inl (l4 + 7)), (3, .inr (.inr 165)), (2, .inr (.inr 102)), (1, .inr (.inr 0)), (0, .inr (.inr (-100)))]) dL_law_1471 rfl rfl (by decide) rfl ?_
                refine zr_goto (pc' := 23) dL_law_1474 rfl ?_
                obtain ⟨n', hn, h⟩ := h
                exact zl_al (ih n' hn _ _ _ _ h) ⟨rfl, rfl, rfl, rfl, rfl, trivial⟩
              · have h := h.2.2 hc
                refine zr_iconst (pc' := 421) dL_law_420 rfl ?_
                exact zr_ireturn dL_law_421 rfl rfl (Or.inl rfl) kc ks (And.intro rfl h)
            · have h := h.2.2 hc
              refine zr_iconst (pc' := 410) dL_law_409 rfl ?_
              refine zr_goto (pc' := 414) dL_law_410 rfl ?_
              refine zl_callV (pc' := 417) (args := [.inl ((E.2.2.2.2.2.2 ((l4 + 1).toNat)).toInt), .inl ((E.2.2.2.2.2.2 ((l4 + 2).toNat)).toInt), .inl ((E.2.2.2.2.2.2 ((l4 + 3).toNat)).toInt), .inl 1]) (st := [.inl r27]) (st' := fun r31 => [.inl r31, .inl r27]) dL_law_414 rfl cv_L_47 ⟨rfl, rfl, by decide, by decide⟩ rfl ps_102 kd_102 rfl rfl (Nat.le_of_ble_eq_true rfl) (fun _ => rfl) kc ks h ?_
              intro r31 M32 h
              refine zr_icmp_eq (tgt := 1471) (pc' := 420) dL_law_417 rfl rfl h.1.1 h.1.2 (fun hc => ?_) (fun hc => ?_)
              · have h := h.2.1 hc
                refine zr_iinc (pc' := 1474) (al' := [(4, .inl (l4 + 7)), (3, .inr (.inr 165)), (2, .inr (.inr 102)), (1, .inr (.inr 0)), (0, .inr (.inr (-100)))]) dL_law_1471 rfl rfl (by decide) rfl ?_
                refine zr_goto (pc' := 23) dL_law_1474 rfl ?_
                obtain ⟨n', hn, h⟩ := h
                exact zl_al (ih n' hn _ _ _ _ h) ⟨rfl, rfl, rfl, rfl, rfl, trivial⟩
              · have h := h.2.2 hc
                refine zr_iconst (pc' := 421) dL_law_420 rfl ?_
                exact zr_ireturn dL_law_421 rfl rfl (Or.inl rfl) kc ks (And.intro rfl h)
        · refine zr_tableIn (off := 382) (tgt := 422) dL_law_40 h.1 (by omega) (by omega) (by rw [hsx]; rfl) rfl ?_
          have h := h.2.2.2.2.2.2.2.2.1 hsx
          refine zr_aload_n (pc' := 423) (i := 1) dL_law_422 rfl rfl rfl ?_
          refine zr_aload_n (pc' := 424) (i := 0) dL_law_423 rfl rfl rfl ?_
          refine zr_iload (pc' := 426) dL_law_424 rfl rfl ?_
          refine zr_iconst (pc' := 427) dL_law_426 rfl ?_
          refine zr_iadd (pc' := 428) dL_law_427 rfl ?_
          refine zr_sld (pc' := 429) dL_law_428 rfl hL h.1.1 h.1.2 ?_
          have h := h.2
          refine zr_aload_n (pc' := 430) (i := 0) dL_law_429 rfl rfl rfl ?_
          refine zr_iload (pc' := 432) dL_law_430 rfl rfl ?_
          refine zr_iconst (pc' := 433) dL_law_432 rfl ?_
          refine zr_iadd (pc' := 434) dL_law_433 rfl ?_
          refine zr_sld (pc' := 435) dL_law_434 rfl hL h.1.1 h.1.2 ?_
          have h := h.2
          refine zr_aload_n (pc' := 436) (i := 0) dL_law_435 rfl rfl rfl ?_
          refine zr_iload (pc' := 438) dL_law_436 rfl rfl ?_
          refine zr_iconst (pc' := 439) dL_law_438 rfl ?_
          refine zr_iadd (pc' := 440) dL_law_439 rfl ?_
          refine zr_sld (pc' := 441) dL_law_440 rfl hL h.1.1 h.1.2 ?_
          have h := h.2
          refine zl_callV (pc' := 444) (args := [.inl ((E.2.2.2.2.2.2 ((l4 + 1).toNat)).toInt), .inl ((E.2.2.2.2.2.2 ((l4 + 2).toNat)).toInt), .inl ((E.2.2.2.2.2.2 ((l4 + 3).toNat)).toInt)]) (st := []) (st' := fun r33 => [.inl r33]) dL_law_441 rfl cv_L_48 ⟨rfl, rfl, by decide, by decide⟩ rfl ps_0 kd_0 rfl rfl (Nat.le_of_ble_eq_true rfl) (fun _ => rfl) kc ks h ?_
          intro r33 M34 h
          refine zr_aload_n (pc' := 445) (i := 2) dL_law_444 rfl rfl rfl ?_
          refine zr_aload_n (pc' := 446) (i := 0) dL_law_445 rfl rfl rfl ?_
          refine zr_iload (pc' := 448) dL_law_446 rfl rfl ?_
          refine zr_iconst (pc' := 449) dL_law_448 rfl ?_
          refine zr_iadd (pc' := 450) dL_law_449 rfl ?_
          refine zr_sld (pc' := 451) dL_law_450 rfl hL h.1.1 h.1.2 ?_
          have h := h.2
          refine zr_aload_n (pc' := 452) (i := 0) dL_law_451 rfl rfl rfl ?_
          refine zr_iload (pc' := 454) dL_law_452 rfl rfl ?_
          refine zr_iconst (pc' := 455) dL_law_454 rfl ?_
          refine zr_iadd (pc' := 456) dL_law_455 rfl ?_
          refine zr_sld (pc' := 457) dL_law_456 rfl hL h.1.1 h.1.2 ?_
          have h := h.2
          refine zr_aload_n (pc' := 458) (i := 0) dL_law_457 rfl rfl rfl ?_
          refine zr_iload (pc' := 460) dL_law_458 rfl rfl ?_
          refine zr_iconst (pc' := 461) dL_law_460 rfl ?_
          refine zr_iadd (pc' := 462) dL_law_461 rfl ?_
          refine zr_sld (pc' := 463) dL_law_462 rfl hL h.1.1 h.1.2 ?_
          have h := h.2
          refine zl_callV (pc' := 466) (args := [.inl ((E.2.2.2.2.2.2 ((l4 + 1).toNat)).toInt), .inl ((E.2.2.2.2.2.2 ((l4 + 2).toNat)).toInt), .inl ((E.2.2.2.2.2.2 ((l4 + 3).toNat)).toInt)]) (st := [.inl r33]) (st' := fun r35 => [.inl r35, .inl r33]) dL_law_463 rfl cv_L_52 ⟨rfl, rfl, by decide, by decide⟩ rfl ps_102 kd_102 rfl rfl (Nat.le_of_ble_eq_true rfl) (fun _ => rfl) kc ks h ?_
          intro r35 M36 h
          refine zr_icmp_eq (tgt := 1471) (pc' := 469) dL_law_466 rfl rfl h.1.1 h.1.2 (fun hc => ?_) (fun hc => ?_)
          · have h := h.2.1 hc
            refine zr_iinc (pc' := 1474) (al' := [(4, .inl (l4 + 7)), (3, .inr (.inr 165)), (2, .inr (.inr 102)), (1, .inr (.inr 0)), (0, .inr (.inr (-100)))]) dL_law_1471 rfl rfl (by decide) rfl ?_
            refine zr_goto (pc' := 23) dL_law_1474 rfl ?_
            obtain ⟨n', hn, h⟩ := h
            exact zl_al (ih n' hn _ _ _ _ h) ⟨rfl, rfl, rfl, rfl, rfl, trivial⟩
          · have h := h.2.2 hc
            refine zr_iconst (pc' := 470) dL_law_469 rfl ?_
            exact zr_ireturn dL_law_470 rfl rfl (Or.inl rfl) kc ks (And.intro rfl h)
        · refine zr_tableIn (off := 431) (tgt := 471) dL_law_40 h.1 (by omega) (by omega) (by rw [hsx]; rfl) rfl ?_
          have h := h.2.2.2.2.2.2.2.2.2.1 hsx
          refine zr_aload_n (pc' := 472) (i := 1) dL_law_471 rfl rfl rfl ?_
          refine zr_aload_n (pc' := 473) (i := 0) dL_law_472 rfl rfl rfl ?_
          refine zr_iload (pc' := 475) dL_law_473 rfl rfl ?_
          refine zr_iconst (pc' := 476) dL_law_475 rfl ?_
          refine zr_iadd (pc' := 477) dL_law_476 rfl ?_
          refine zr_sld (pc' := 478) dL_law_477 rfl hL h.1.1 h.1.2 ?_
          have h := h.2
          refine zr_aload_n (pc' := 479) (i := 0) dL_law_478 rfl rfl rfl ?_
          refine zr_iload (pc' := 481) dL_law_479 rfl rfl ?_
          refine zr_iconst (pc' := 482) dL_law_481 rfl ?_
          refine zr_iadd (pc' := 483) dL_law_482 rfl ?_
          refine zr_sld (pc' := 484) dL_law_483 rfl hL h.1.1 h.1.2 ?_
          have h := h.2
          refine zl_callV (pc' := 487) (args := [.inl ((E.2.2.2.2.2.2 ((l4 + 1).toNat)).toInt), .inl ((E.2.2.2.2.2.2 ((l4 + 2).toNat)).toInt)]) (st := []) (st' := fun r37 => [.inl r37]) dL_law_484 rfl cv_L_53 ⟨rfl, rfl, by decide, by decide⟩ rfl ps_0 kd_0 rfl rfl (Nat.le_of_ble_eq_true rfl) (fun _ => rfl) kc ks h ?_
          intro r37 M38 h
          refine zr_aload_n (pc' := 488) (i := 2) dL_law_487 rfl rfl rfl ?_
          refine zr_aload_n (pc' := 489) (i := 0) dL_law_488 rfl rfl rfl ?_
          refine zr_iload (pc' := 491) dL_law_489 rfl rfl ?_
          refine zr_iconst (pc' := 492) dL_law_491 rfl ?_
          refine zr_iadd (pc' := 493) dL_law_492 rfl ?_
          refine zr_sld (pc' := 494) dL_law_493 rfl hL h.1.1 h.1.2 ?_
          have h := h.2
          refine zr_aload_n (pc' := 495) (i := 0) dL_law_494 rfl rfl rfl ?_
          refine zr_iload (pc' := 497) dL_law_495 rfl rfl ?_
          refine zr_iconst (pc' := 498) dL_law_497 rfl ?_
          refine zr_iadd (pc' := 499) dL_law_498 rfl ?_
          refine zr_sld (pc' := 500) dL_law_499 rfl hL h.1.1 h.1.2 ?_
          have h := h.2
          refine zl_callV (pc' := 503) (args := [.inl ((E.2.2.2.2.2.2 ((l4 + 1).toNat)).toInt), .inl ((E.2.2.2.2.2.2 ((l4 + 2).toNat)).toInt)]) (st := [.inl r37]) (st' := fun r39 => [.inl r39, .inl r37]) dL_law_500 rfl cv_L_56 ⟨rfl, rfl, by decide, by decide⟩ rfl ps_102 kd_102 rfl rfl (Nat.le_of_ble_eq_true rfl) (fun _ => rfl) kc ks h ?_
          intro r39 M40 h
          refine zr_icmp_eq (tgt := 1471) (pc' := 506) dL_law_503 rfl rfl h.1.1 h.1.2 (fun hc => ?_) (fun hc => ?_)
          · have h := h.2.1 hc
            refine zr_iinc (pc' := 1474) (al' := [(4, .inl (l4 + 7)), (3, .inr (.inr 165)), (2, .inr (.inr 102)), (1, .inr (.inr 0)), (0, .inr (.inr (-100)))]) dL_law_1471 rfl rfl (by decide) rfl ?_
            refine zr_goto (pc' := 23) dL_law_1474 rfl ?_
            obtain ⟨n', hn, h⟩ := h
            exact zl_al (ih n' hn _ _ _ _ h) ⟨rfl, rfl, rfl, rfl, rfl, trivial⟩
          · have h := h.2.2 hc
            refine zr_iconst (pc' := 507) dL_law_506 rfl ?_
            exact zr_ireturn dL_law_507 rfl rfl (Or.inl rfl) kc ks (And.intro rfl h)
        · refine zr_tableIn (off := 468) (tgt := 508) dL_law_40 h.1 (by omega) (by omega) (by rw [hsx]; rfl) rfl ?_
          have h := h.2.2.2.2.2.2.2.2.2.2.1 hsx
          refine zr_aload_n (pc' := 509) (i := 1) dL_law_508 rfl rfl rfl ?_
          refine zr_aload_n (pc' := 510) (i := 0) dL_law_509 rfl rfl rfl ?_
          refine zr_iload (pc' := 512) dL_law_510 rfl rfl ?_
          refine zr_iconst (pc' := 513) dL_law_512 rfl ?_
          refine zr_iadd (pc' := 514) dL_law_513 rfl ?_
          refine zr_sld (pc' := 515) dL_law_514 rfl hL h.1.1 h.1.2 ?_
          have h := h.2
          refine zr_aload_n (pc' := 516) (i := 0) dL_law_515 rfl rfl rfl ?_
          refine zr_iload (pc' := 518) dL_law_516 rfl rfl ?_
          refine zr_iconst (pc' := 519) dL_law_518 rfl ?_
          refine zr_iadd (pc' := 520) dL_law_519 rfl ?_
          refine zr_sld (pc' := 521) dL_law_520 rfl hL h.1.1 h.1.2 ?_
          have h := h.2
          refine zr_aload_n (pc' := 522) (i := 0) dL_law_521 rfl rfl rfl ?_
          refine zr_iload (pc' := 524) dL_law_522 rfl rfl ?_
          refine zr_iconst (pc' := 525) dL_law_524 rfl ?_
          refine zr_iadd (pc' := 526) dL_law_525 rfl ?_
          refine zr_sld (pc' := 527) dL_law_526 rfl hL h.1.1 h.1.2 ?_
          have h := h.2
          refine zl_callV (pc' := 530) (args := [.inl ((E.2.2.2.2.2.2 ((l4 + 1).toNat)).toInt), .inl ((E.2.2.2.2.2.2 ((l4 + 2).toNat)).toInt), .inl ((E.2.2.2.2.2.2 ((l4 + 3).toNat)).toInt)]) (st := []) (st' := fun r41 => [.inr (.inl r41)]) dL_law_527 rfl cv_L_57 ⟨rfl, rfl, by decide, by decide⟩ rfl ps_0 kd_0 rfl rfl (Nat.le_of_ble_eq_true rfl) (fun _ => rfl) kc ks h ?_
          intro r41 M42 h
          refine zr_aload_n (pc' := 531) (i := 2) dL_law_530 rfl rfl rfl ?_
          refine zr_aload_n (pc' := 532) (i := 0) dL_law_531 rfl rfl rfl ?_
          refine zr_iload (pc' := 534) dL_law_532 rfl rfl ?_
          refine zr_iconst (pc' := 535) dL_law_534 rfl ?_
          refine zr_iadd (pc' := 536) dL_law_535 rfl ?_
          refine zr_sld (pc' := 537) dL_law_536 rfl hL h.1.1 h.1.2 ?_
          have h := h.2
          refine zr_aload_n (pc' := 538) (i := 0) dL_law_537 rfl rfl rfl ?_
          refine zr_iload (pc' := 540) dL_law_538 rfl rfl ?_
          refine zr_iconst (pc' := 541) dL_law_540 rfl ?_
          refine zr_iadd (pc' := 542) dL_law_541 rfl ?_
          refine zr_sld (pc' := 543) dL_law_542 rfl hL h.1.1 h.1.2 ?_
          have h := h.2
          refine zr_aload_n (pc' := 544) (i := 0) dL_law_543 rfl rfl rfl ?_
          refine zr_iload (pc' := 546) dL_law_544 rfl rfl ?_
          refine zr_iconst (pc' := 547) dL_law_546 rfl ?_
          refine zr_iadd (pc' := 548) dL_law_547 rfl ?_
          refine zr_sld (pc' := 549) dL_law_548 rfl hL h.1.1 h.1.2 ?_
          have h := h.2
          refine zl_callV (pc' := 552) (args := [.inl ((E.2.2.2.2.2.2 ((l4 + 1).toNat)).toInt), .inl ((E.2.2.2.2.2.2 ((l4 + 2).toNat)).toInt), .inl ((E.2.2.2.2.2.2 ((l4 + 3).toNat)).toInt)]) (st := [.inr (.inl r41)]) (st' := fun r43 => [.inr (.inl r43), .inr (.inl r41)]) dL_law_549 rfl cv_L_61 ⟨rfl, rfl, by decide, by decide⟩ rfl ps_102 kd_102 rfl rfl (Nat.le_of_ble_eq_true rfl) (fun _ => rfl) kc ks h ?_
          intro r43 M44 h
          refine zl_lif_eq (tgt := 1471) (pc1 := 553) (pc' := 556) dL_law_552 rfl dL_law_553 rfl rfl h.1.1 h.1.2 (fun hc => ?_) (fun hc => ?_)
          · have h := h.2.1 hc
            refine zr_iinc (pc' := 1474) (al' := [(4, .inl (l4 + 7)), (3, .inr (.inr 165)), (2, .inr (.inr 102)), (1, .inr (.inr 0)), (0, .inr (.inr (-100)))]) dL_law_1471 rfl rfl (by decide) rfl ?_
            refine zr_goto (pc' := 23) dL_law_1474 rfl ?_
            obtain ⟨n', hn, h⟩ := h
            exact zl_al (ih n' hn _ _ _ _ h) ⟨rfl, rfl, rfl, rfl, rfl, trivial⟩
          · have h := h.2.2 hc
            refine zr_iconst (pc' := 557) dL_law_556 rfl ?_
            exact zr_ireturn dL_law_557 rfl rfl (Or.inl rfl) kc ks (And.intro rfl h)
        · refine zr_tableIn (off := 518) (tgt := 558) dL_law_40 h.1 (by omega) (by omega) (by rw [hsx]; rfl) rfl ?_
          have h := h.2.2.2.2.2.2.2.2.2.2.2.1 hsx
          refine zr_aload_n (pc' := 559) (i := 1) dL_law_558 rfl rfl rfl ?_
          refine zr_aload_n (pc' := 560) (i := 0) dL_law_559 rfl rfl rfl ?_
          refine zr_iload (pc' := 562) dL_law_560 rfl rfl ?_
          refine zr_iconst (pc' := 563) dL_law_562 rfl ?_
          refine zr_iadd (pc' := 564) dL_law_563 rfl ?_
          refine zr_sld (pc' := 565) dL_law_564 rfl hL h.1.1 h.1.2 ?_
          have h := h.2
          refine zl_callV (pc' := 568) (args := [.inl ((E.2.2.2.2.2.2 ((l4 + 1).toNat)).toInt)]) (st := []) (st' := fun r45 => [.inl r45]) dL_law_565 rfl cv_L_62 ⟨rfl, rfl, by decide, by decide⟩ rfl ps_0 kd_0 rfl rfl (Nat.le_of_ble_eq_true rfl) (fun _ => rfl) kc ks h ?_
          intro r45 M46 h
          refine zr_aload_n (pc' := 569) (i := 2) dL_law_568 rfl rfl rfl ?_
          refine zr_aload_n (pc' := 570) (i := 0) dL_law_569 rfl rfl rfl ?_
          refine zr_iload (pc' := 572) dL_law_570 rfl rfl ?_
          refine zr_iconst (pc' := 573) dL_law_572 rfl ?_
          refine zr_iadd (pc' := 574) dL_law_573 rfl ?_
          refine zr_sld (pc' := 575) dL_law_574 rfl hL h.1.1 h.1.2 ?_
          have h := h.2
          refine zl_callV (pc' := 578) (args := [.inl ((E.2.2.2.2.2.2 ((l4 + 1).toNat)).toInt)]) (st := [.inl r45]) (st' := fun r47 => [.inl r47, .inl r45]) dL_law_575 rfl cv_L_65 ⟨rfl, rfl, by decide, by decide⟩ rfl ps_102 kd_102 rfl rfl (Nat.le_of_ble_eq_true rfl) (fun _ => rfl) kc ks h ?_
          intro r47 M48 h
          refine zr_icmp_eq (tgt := 1471) (pc' := 581) dL_law_578 rfl rfl h.1.1 h.1.2 (fun hc => ?_) (fun hc => ?_)
          · have h := h.2.1 hc
            refine zr_iinc (pc' := 1474) (al' := [(4, .inl (l4 + 7)), (3, .inr (.inr 165)), (2, .inr (.inr 102)), (1, .inr (.inr 0)), (0, .inr (.inr (-100)))]) dL_law_1471 rfl rfl (by decide) rfl ?_
            refine zr_goto (pc' := 23) dL_law_1474 rfl ?_
            obtain ⟨n', hn, h⟩ := h
            exact zl_al (ih n' hn _ _ _ _ h) ⟨rfl, rfl, rfl, rfl, rfl, trivial⟩
          · have h := h.2.2 hc
            refine zr_iconst (pc' := 582) dL_law_581 rfl ?_
            exact zr_ireturn dL_law_582 rfl rfl (Or.inl rfl) kc ks (And.intro rfl h)
        · refine zr_tableIn (off := 543) (tgt := 583) dL_law_40 h.1 (by omega) (by omega) (by rw [hsx]; rfl) rfl ?_
          have h := h.2.2.2.2.2.2.2.2.2.2.2.2.1 hsx
          refine zr_aload_n (pc' := 584) (i := 1) dL_law_583 rfl rfl rfl ?_
          refine zr_aload_n (pc' := 585) (i := 0) dL_law_584 rfl rfl rfl ?_
          refine zr_iload (pc' := 587) dL_law_585 rfl rfl ?_
          refine zr_iconst (pc' := 588) dL_law_587 rfl ?_
          refine zr_iadd (pc' := 589) dL_law_588 rfl ?_
          refine zr_sld (pc' := 590) dL_law_589 rfl hL h.1.1 h.1.2 ?_
          have h := h.2
          refine zr_aload_n (pc' := 591) (i := 0) dL_law_590 rfl rfl rfl ?_
          refine zr_iload (pc' := 593) dL_law_591 rfl rfl ?_
          refine zr_iconst (pc' := 594) dL_law_593 rfl ?_
          refine zr_iadd (pc' := 595) dL_law_594 rfl ?_
          refine zr_sld (pc' := 596) dL_law_595 rfl hL h.1.1 h.1.2 ?_
          have h := h.2
          refine zl_callV (pc' := 599) (args := [.inl ((E.2.2.2.2.2.2 ((l4 + 1).toNat)).toInt), .inl ((E.2.2.2.2.2.2 ((l4 + 2).toNat)).toInt)]) (st := []) (st' := fun r49 => [.inl r49]) dL_law_596 rfl cv_L_66 ⟨rfl, rfl, by decide, by decide⟩ rfl ps_0 kd_0 rfl rfl (Nat.le_of_ble_eq_true rfl) (fun _ => rfl) kc ks h ?_
          intro r49 M50 h
          refine zr_aload_n (pc' := 600) (i := 2) dL_law_599 rfl rfl rfl ?_
          refine zr_aload_n (pc' := 601) (i := 0) dL_law_600 rfl rfl rfl ?_
          refine zr_iload (pc' := 603) dL_law_601 rfl rfl ?_
          refine zr_iconst (pc' := 604) dL_law_603 rfl ?_
          refine zr_iadd (pc' := 605) dL_law_604 rfl ?_
          refine zr_sld (pc' := 606) dL_law_605 rfl hL h.1.1 h.1.2 ?_
          have h := h.2
          refine zr_aload_n (pc' := 607) (i := 0) dL_law_606 rfl rfl rfl ?_
          refine zr_iload (pc' := 609) dL_law_607 rfl rfl ?_
          refine zr_iconst (pc' := 610) dL_law_609 rfl ?_
          refine zr_iadd (pc' := 611) dL_law_610 rfl ?_
          refine zr_sld (pc' := 612) dL_law_611 rfl hL h.1.1 h.1.2 ?_
          have h := h.2
          refine zl_callV (pc' := 615) (args := [.inl ((E.2.2.2.2.2.2 ((l4 + 1).toNat)).toInt), .inl ((E.2.2.2.2.2.2 ((l4 + 2).toNat)).toInt)]) (st := [.inl r49]) (st' := fun r51 => [.inl r51, .inl r49]) dL_law_612 rfl cv_L_70 ⟨rfl, rfl, by decide, by decide⟩ rfl ps_102 kd_102 rfl rfl (Nat.le_of_ble_eq_true rfl) (fun _ => rfl) kc ks h ?_
          intro r51 M52 h
          refine zr_icmp_eq (tgt := 1471) (pc' := 618) dL_law_615 rfl rfl h.1.1 h.1.2 (fun hc => ?_) (fun hc => ?_)
          · have h := h.2.1 hc
            refine zr_iinc (pc' := 1474) (al' := [(4, .inl (l4 + 7)), (3, .inr (.inr 165)), (2, .inr (.inr 102)), (1, .inr (.inr 0)), (0, .inr (.inr (-100)))]) dL_law_1471 rfl rfl (by decide) rfl ?_
            refine zr_goto (pc' := 23) dL_law_1474 rfl ?_
            obtain ⟨n', hn, h⟩ := h
            exact zl_al (ih n' hn _ _ _ _ h) ⟨rfl, rfl, rfl, rfl, rfl, trivial⟩
          · have h := h.2.2 hc
            refine zr_iconst (pc' := 619) dL_law_618 rfl ?_
            exact zr_ireturn dL_law_619 rfl rfl (Or.inl rfl) kc ks (And.intro rfl h)
        · refine zr_tableIn (off := 580) (tgt := 620) dL_law_40 h.1 (by omega) (by omega) (by rw [hsx]; rfl) rfl ?_
          have h := h.2.2.2.2.2.2.2.2.2.2.2.2.2.1 hsx
          refine zr_aload_n (pc' := 621) (i := 1) dL_law_620 rfl rfl rfl ?_
          refine zr_aload_n (pc' := 622) (i := 0) dL_law_621 rfl rfl rfl ?_
          refine zr_iload (pc' := 624) dL_law_622 rfl rfl ?_
          refine zr_iconst (pc' := 625) dL_law_624 rfl ?_
          refine zr_iadd (pc' := 626) dL_law_625 rfl ?_
          refine zr_sld (pc' := 627) dL_law_626 rfl hL h.1.1 h.1.2 ?_
          have h := h.2
          refine zr_aload_n (pc' := 628) (i := 0) dL_law_627 rfl rfl rfl ?_
          refine zr_iload (pc' := 630) dL_law_628 rfl rfl ?_
          refine zr_iconst (pc' := 631) dL_law_630 rfl ?_
          refine zr_iadd (pc' := 632) dL_law_631 rfl ?_
          refine zr_sld (pc' := 633) dL_law_632 rfl hL h.1.1 h.1.2 ?_
          have h := h.2
          refine zr_aload_n (pc' := 634) (i := 0) dL_law_633 rfl rfl rfl ?_
          refine zr_iload (pc' := 636) dL_law_634 rfl rfl ?_
          refine zr_iconst (pc' := 637) dL_law_636 rfl ?_
          refine zr_iadd (pc' := 638) dL_law_637 rfl ?_
          refine zr_sld (pc' := 639) dL_law_638 rfl hL h.1.1 h.1.2 ?_
          have h := h.2
          refine zl_callV (pc' := 642) (args := [.inl ((E.2.2.2.2.2.2 ((l4 + 1).toNat)).toInt), .inl ((E.2.2.2.2.2.2 ((l4 + 2).toNat)).toInt), .inl ((E.2.2.2.2.2.2 ((l4 + 3).toNat)).toInt)]) (st := []) (st' := fun r53 => [.inl r53]) dL_law_639 rfl cv_L_71 ⟨rfl, rfl, by decide, by decide⟩ rfl ps_0 kd_0 rfl rfl (Nat.le_of_ble_eq_true rfl) (fun _ => rfl) kc ks h ?_
          intro r53 M54 h
          refine zr_aload_n (pc' := 643) (i := 2) dL_law_642 rfl rfl rfl ?_
          refine zr_aload_n (pc' := 644) (i := 0) dL_law_643 rfl rfl rfl ?_
          refine zr_iload (pc' := 646) dL_law_644 rfl rfl ?_
          refine zr_iconst (pc' := 647) dL_law_646 rfl ?_
          refine zr_iadd (pc' := 648) dL_law_647 rfl ?_
          refine zr_sld (pc' := 649) dL_law_648 rfl hL h.1.1 h.1.2 ?_
          have h := h.2
          refine zr_aload_n (pc' := 650) (i := 0) dL_law_649 rfl rfl rfl ?_
          refine zr_iload (pc' := 652) dL_law_650 rfl rfl ?_
          refine zr_iconst (pc' := 653) dL_law_652 rfl ?_
          refine zr_iadd (pc' := 654) dL_law_653 rfl ?_
          refine zr_sld (pc' := 655) dL_law_654 rfl hL h.1.1 h.1.2 ?_
          have h := h.2
          refine zr_aload_n (pc' := 656) (i := 0) dL_law_655 rfl rfl rfl ?_
          refine zr_iload (pc' := 658) dL_law_656 rfl rfl ?_
          refine zr_iconst (pc' := 659) dL_law_658 rfl ?_
          refine zr_iadd (pc' := 660) dL_law_659 rfl ?_
          refine zr_sld (pc' := 661) dL_law_660 rfl hL h.1.1 h.1.2 ?_
          have h := h.2
          refine zl_callV (pc' := 664) (args := [.inl ((E.2.2.2.2.2.2 ((l4 + 1).toNat)).toInt), .inl ((E.2.2.2.2.2.2 ((l4 + 2).toNat)).toInt), .inl ((E.2.2.2.2.2.2 ((l4 + 3).toNat)).toInt)]) (st := [.inl r53]) (st' := fun r55 => [.inl r55, .inl r53]) dL_law_661 rfl cv_L_75 ⟨rfl, rfl, by decide, by decide⟩ rfl ps_102 kd_102 rfl rfl (Nat.le_of_ble_eq_true rfl) (fun _ => rfl) kc ks h ?_
          intro r55 M56 h
          refine zr_icmp_eq (tgt := 1471) (pc' := 667) dL_law_664 rfl rfl h.1.1 h.1.2 (fun hc => ?_) (fun hc => ?_)
          · have h := h.2.1 hc
            refine zr_iinc (pc' := 1474) (al' := [(4, .inl (l4 + 7)), (3, .inr (.inr 165)), (2, .inr (.inr 102)), (1, .inr (.inr 0)), (0, .inr (.inr (-100)))]) dL_law_1471 rfl rfl (by decide) rfl ?_
            refine zr_goto (pc' := 23) dL_law_1474 rfl ?_
            obtain ⟨n', hn, h⟩ := h
            exact zl_al (ih n' hn _ _ _ _ h) ⟨rfl, rfl, rfl, rfl, rfl, trivial⟩
          · have h := h.2.2 hc
            refine zr_iconst (pc' := 668) dL_law_667 rfl ?_
            exact zr_ireturn dL_law_668 rfl rfl (Or.inl rfl) kc ks (And.intro rfl h)
        · refine zr_tableIn (off := 629) (tgt := 669) dL_law_40 h.1 (by omega) (by omega) (by rw [hsx]; rfl) rfl ?_
          have h := h.2.2.2.2.2.2.2.2.2.2.2.2.2.2.1 hsx
          refine zr_aload_n (pc' := 670) (i := 1) dL_law_669 rfl rfl rfl ?_
          refine zr_aload_n (pc' := 671) (i := 0) dL_law_670 rfl rfl rfl ?_
          refine zr_iload (pc' := 673) dL_law_671 rfl rfl ?_
          refine zr_iconst (pc' := 674) dL_law_673 rfl ?_
          refine zr_iadd (pc' := 675) dL_law_674 rfl ?_
          refine zr_sld (pc' := 676) dL_law_675 rfl hL h.1.1 h.1.2 ?_
          have h := h.2
          refine zr_aload_n (pc' := 677) (i := 0) dL_law_676 rfl rfl rfl ?_
          refine zr_iload (pc' := 679) dL_law_677 rfl rfl ?_
          refine zr_iconst (pc' := 680) dL_law_679 rfl ?_
          refine zr_iadd (pc' := 681) dL_law_680 rfl ?_
          refine zr_sld (pc' := 682) dL_law_681 rfl hL h.1.1 h.1.2 ?_
          have h := h.2
          refine zr_if_eq (tgt := 689) (pc' := 685) dL_law_682 rfl rfl h.1 (fun hc => ?_) (fun hc => ?_)
          · have h := h.2.1 hc
            refine zr_iconst (pc' := 690) dL_law_689 rfl ?_
            refine zr_aload_n (pc' := 691) (i := 0) dL_law_690 rfl rfl rfl ?_
            refine zr_iload (pc' := 693) dL_law_691 rfl rfl ?_
            refine zr_iconst (pc' := 694) dL_law_693 rfl ?_
            refine zr_iadd (pc' := 695) dL_law_694 rfl ?_
            refine zr_sld (pc' := 696) dL_law_695 rfl hL h.1.1 h.1.2 ?_
            have h := h.2
            refine zr_if_eq (tgt := 703) (pc' := 699) dL_law_696 rfl rfl h.1 (fun hc => ?_) (fun hc => ?_)
            · have h := h.2.1 hc
              refine zr_iconst (pc' := 704) dL_law_703 rfl ?_
              refine zl_callV (pc' := 707) (args := [.inl ((E.2.2.2.2.2.2 ((l4 + 1).toNat)).toInt), .inl 0, .inl 0]) (st := []) (st' := fun r57 => [.inl r57]) dL_law_704 rfl cv_L_76 ⟨rfl, rfl, by decide, by decide⟩ rfl ps_0 kd_0 rfl rfl (Nat.le_of_ble_eq_true rfl) (fun _ => rfl) kc ks h ?_
              intro r57 M58 h
              refine zr_aload_n (pc' := 708) (i := 2) dL_law_707 rfl rfl rfl ?_
              refine zr_aload_n (pc' := 709) (i := 0) dL_law_708 rfl rfl rfl ?_
              refine zr_iload (pc' := 711) dL_law_709 rfl rfl ?_
              refine zr_iconst (pc' := 712) dL_law_711 rfl ?_
              refine zr_iadd (pc' := 713) dL_law_712 rfl ?_
              refine zr_sld (pc' := 714) dL_law_713 rfl hL h.1.1 h.1.2 ?_
              have h := h.2
              refine zr_aload_n (pc' := 715) (i := 0) dL_law_714 rfl rfl rfl ?_
              refine zr_iload (pc' := 717) dL_law_715 rfl rfl ?_
              refine zr_iconst (pc' := 718) dL_law_717 rfl ?_
              refine zr_iadd (pc' := 719) dL_law_718 rfl ?_
              refine zr_sld (pc' := 720) dL_law_719 rfl hL h.1.1 h.1.2 ?_
              have h := h.2
              refine zr_if_eq (tgt := 727) (pc' := 723) dL_law_720 rfl rfl h.1 (fun hc => ?_) (fun hc => ?_)
              · have h := h.2.1 hc
                refine zr_iconst (pc' := 728) dL_law_727 rfl ?_
                refine zr_aload_n (pc' := 729) (i := 0) dL_law_728 rfl rfl rfl ?_
                refine zr_iload (pc' := 731) dL_law_729 rfl rfl ?_
                refine zr_iconst (pc' := 732) dL_law_731 rfl ?_
                refine zr_iadd (pc' := 733) dL_law_732 rfl ?_
                refine zr_sld (pc' := 734) dL_law_733 rfl hL h.1.1 h.1.2 ?_
                have h := h.2
                refine zr_if_eq (tgt := 741) (pc' := 737) dL_law_734 rfl rfl h.1 (fun hc => ?_) (fun hc => ?_)
                · have h := h.2.1 hc
                  refine zr_iconst (pc' := 742) dL_law_741 rfl ?_
                  refine zl_callV (pc' := 745) (args := [.inl ((E.2.2.2.2.2.2 ((l4 + 1).toNat)).toInt), .inl 0, .inl 0]) (st := [.inl r57]) (st' := fun r59 => [.inl r59, .inl r57]) dL_law_742 rfl cv_L_80 ⟨rfl, rfl, by decide, by decide⟩ rfl ps_102 kd_102 rfl rfl (Nat.le_of_ble_eq_true rfl) (fun _ => rfl) kc ks h ?_
                  intro r59 M60 h
                  refine zr_icmp_eq (tgt := 1471) (pc' := 748) dL_law_745 rfl rfl h.1.1 h.1.2 (fun hc => ?_) (fun hc => ?_)
                  · have h := h.2.1 hc
                    refine zr_iinc (pc' := 1474) (al' := [(4, .inl (l4 + 7)), (3, .inr (.inr 165)), (2, .inr (.inr 102)), (1, .inr (.inr 0)), (0, .inr (.inr (-100)))]) dL_law_1471 rfl rfl (by decide) rfl ?_
                    refine zr_goto (pc' := 23) dL_law_1474 rfl ?_
                    obtain ⟨n', hn, h⟩ := h
                    exact zl_al (ih n' hn _ _ _ _ h) ⟨rfl, rfl, rfl, rfl, rfl, trivial⟩
                  · have h := h.2.2 hc
                    refine zr_iconst (pc' := 749) dL_law_748 rfl ?_
                    exact zr_ireturn dL_law_749 rfl rfl (Or.inl rfl) kc ks (And.intro rfl h)
                · have h := h.2.2 hc
                  refine zr_iconst (pc' := 738) dL_law_737 rfl ?_
                  refine zr_goto (pc' := 742) dL_law_738 rfl ?_
                  refine zl_callV (pc' := 745) (args := [.inl ((E.2.2.2.2.2.2 ((l4 + 1).toNat)).toInt), .inl 0, .inl 1]) (st := [.inl r57]) (st' := fun r61 => [.inl r61, .inl r57]) dL_law_742 rfl cv_L_80 ⟨rfl, rfl, by decide, by decide⟩ rfl ps_102 kd_102 rfl rfl (Nat.le_of_ble_eq_true rfl) (fun _ => rfl) kc ks h ?_
                  intro r61 M62 h
                  refine zr_icmp_eq (tgt := 1471) (pc' := 748) dL_law_745 rfl rfl h.1.1 h.1.2 (fun hc => ?_) (fun hc => ?_)
                  · have h := h.2.1 hc
                    refine zr_iinc (pc' := 1474) (al' := [(4, .inl (l4 + 7)), (3, .inr (.inr 165)), (2, .inr (.inr 102)), (1, .inr (.inr 0)), (0, .inr (.inr (-100)))]) dL_law_1471 rfl rfl (by decide) rfl ?_
                    refine zr_goto (pc' := 23) dL_law_1474 rfl ?_
                    obtain ⟨n', hn, h⟩ := h
                    exact zl_al (ih n' hn _ _ _ _ h) ⟨rfl, rfl, rfl, rfl, rfl, trivial⟩
                  · have h := h.2.2 hc
                    refine zr_iconst (pc' := 749) dL_law_748 rfl ?_
                    exact zr_ireturn dL_law_749 rfl rfl (Or.inl rfl) kc ks (And.intro rfl h)
              · have h := h.2.2 hc
                refine zr_iconst (pc' := 724) dL_law_723 rfl ?_
                refine zr_goto (pc' := 728) dL_law_724 rfl ?_
                refine zr_aload_n (pc' := 729) (i := 0) dL_law_728 rfl rfl rfl ?_
                refine zr_iload (pc' := 731) dL_law_729 rfl rfl ?_
                refine zr_iconst (pc' := 732) dL_law_731 rfl ?_
                refine zr_iadd (pc' := 733) dL_law_732 rfl ?_
                refine zr_sld (pc' := 734) dL_law_733 rfl hL h.1.1 h.1.2 ?_
                have h := h.2
                refine zr_if_eq (tgt := 741) (pc' := 737) dL_law_734 rfl rfl h.1 (fun hc => ?_) (fun hc => ?_)
                · have h := h.2.1 hc
                  refine zr_iconst (pc' := 742) dL_law_741 rfl ?_
                  refine zl_callV (pc' := 745) (args := [.inl ((E.2.2.2.2.2.2 ((l4 + 1).toNat)).toInt), .inl 1, .inl 0]) (st := [.inl r57]) (st' := fun r63 => [.inl r63, .inl r57]) dL_law_742 rfl cv_L_80 ⟨rfl, rfl, by decide, by decide⟩ rfl ps_102 kd_102 rfl rfl (Nat.le_of_ble_eq_true rfl) (fun _ => rfl) kc ks h ?_
                  intro r63 M64 h
                  refine zr_icmp_eq (tgt := 1471) (pc' := 748) dL_law_745 rfl rfl h.1.1 h.1.2 (fun hc => ?_) (fun hc => ?_)
                  · have h := h.2.1 hc
                    refine zr_iinc (pc' := 1474) (al' := [(4, .inl (l4 + 7)), (3, .inr (.inr 165)), (2, .inr (.inr 102)), (1, .inr (.inr 0)), (0, .inr (.inr (-100)))]) dL_law_1471 rfl rfl (by decide) rfl ?_
                    refine zr_goto (pc' := 23) dL_law_1474 rfl ?_
                    obtain ⟨n', hn, h⟩ := h
                    exact zl_al (ih n' hn _ _ _ _ h) ⟨rfl, rfl, rfl, rfl, rfl, trivial⟩
                  · have h := h.2.2 hc
                    refine zr_iconst (pc' := 749) dL_law_748 rfl ?_
                    exact zr_ireturn dL_law_749 rfl rfl (Or.inl rfl) kc ks (And.intro rfl h)
                · have h := h.2.2 hc
                  refine zr_iconst (pc' := 738) dL_law_737 rfl ?_
                  refine zr_goto (pc' := 742) dL_law_738 rfl ?_
                  refine zl_callV (pc' := 745) (args := [.inl ((E.2.2.2.2.2.2 ((l4 + 1).toNat)).toInt), .inl 1, .inl 1]) (st := [.inl r57]) (st' := fun r65 => [.inl r65, .inl r57]) dL_law_742 rfl cv_L_80 ⟨rfl, rfl, by decide, by decide⟩ rfl ps_102 kd_102 rfl rfl (Nat.le_of_ble_eq_true rfl) (fun _ => rfl) kc ks h ?_
                  intro r65 M66 h
                  refine zr_icmp_eq (tgt := 1471) (pc' := 748) dL_law_745 rfl rfl h.1.1 h.1.2 (fun hc => ?_) (fun hc => ?_)
                  · have h := h.2.1 hc
                    refine zr_iinc (pc' := 1474) (al' := [(4, .inl (l4 + 7)), (3, .inr (.inr 165)), (2, .inr (.inr 102)), (1, .inr (.inr 0)), (0, .inr (.inr (-100)))]) dL_law_1471 rfl rfl (by decide) rfl ?_
                    refine zr_goto (pc' := 23) dL_law_1474 rfl ?_
                    obtain ⟨n', hn, h⟩ := h
                    exact zl_al (ih n' hn _ _ _ _ h) ⟨rfl, rfl, rfl, rfl, rfl, trivial⟩
                  · have h := h.2.2 hc
                    refine zr_iconst (pc' := 749) dL_law_748 rfl ?_
                    exact zr_ireturn dL_law_749 rfl rfl (Or.inl rfl) kc ks (And.intro rfl h)
            · have h := h.2.2 hc
              refine zr_iconst (pc' := 700) dL_law_699 rfl ?_
              refine zr_goto (pc' := 704) dL_law_700 rfl ?_
              refine zl_callV (pc' := 707) (args := [.inl ((E.2.2.2.2.2.2 ((l4 + 1).toNat)).toInt), .inl 0, .inl 1]) (st := []) (st' := fun r67 => [.inl r67]) dL_law_704 rfl cv_L_76 ⟨rfl, rfl, by decide, by decide⟩ rfl ps_0 kd_0 rfl rfl (Nat.le_of_ble_eq_true rfl) (fun _ => rfl) kc ks h ?_
              intro r67 M68 h
              refine zr_aload_n (pc' := 708) (i := 2) dL_law_707 rfl rfl rfl ?_
              refine zr_aload_n (pc' := 709) (i := 0) dL_law_708 rfl rfl rfl ?_
              refine zr_iload (pc' := 711) dL_law_709 rfl rfl ?_
              refine zr_iconst (pc' := 712) dL_law_711 rfl ?_
              refine zr_iadd (pc' := 713) dL_law_712 rfl ?_
              refine zr_sld (pc' := 714) dL_law_713 rfl hL h.1.1 h.1.2 ?_
              have h := h.2
              refine zr_aload_n (pc' := 715) (i := 0) dL_law_714 rfl rfl rfl ?_
              refine zr_iload (pc' := 717) dL_law_715 rfl rfl ?_
              refine zr_iconst (pc' := 718) dL_law_717 rfl ?_
              refine zr_iadd (pc' := 719) dL_law_718 rfl ?_
              refine zr_sld (pc' := 720) dL_law_719 rfl hL h.1.1 h.1.2 ?_
              have h := h.2
              refine zr_if_eq (tgt := 727) (pc' := 723) dL_law_720 rfl rfl h.1 (fun hc => ?_) (fun hc => ?_)
              · have h := h.2.1 hc
                refine zr_iconst (pc' := 728) dL_law_727 rfl ?_
                refine zr_aload_n (pc' := 729) (i := 0) dL_law_728 rfl rfl rfl ?_
                refine zr_iload (pc' := 731) dL_law_729 rfl rfl ?_
                refine zr_iconst (pc' := 732) dL_law_731 rfl ?_
                refine zr_iadd (pc' := 733) dL_law_732 rfl ?_
                refine zr_sld (pc' := 734) dL_law_733 rfl hL h.1.1 h.1.2 ?_
                have h := h.2
                refine zr_if_eq (tgt := 741) (pc' := 737) dL_law_734 rfl rfl h.1 (fun hc => ?_) (fun hc => ?_)
                · have h := h.2.1 hc
                  refine zr_iconst (pc' := 742) dL_law_741 rfl ?_
                  refine zl_callV (pc' := 745) (args := [.inl ((E.2.2.2.2.2.2 ((l4 + 1).toNat)).toInt), .inl 0, .inl 0]) (st := [.inl r67]) (st' := fun r69 => [.inl r69, .inl r67]) dL_law_742 rfl cv_L_80 ⟨rfl, rfl, by decide, by decide⟩ rfl ps_102 kd_102 rfl rfl (Nat.le_of_ble_eq_true rfl) (fun _ => rfl) kc ks h ?_
                  intro r69 M70 h
                  refine zr_icmp_eq (tgt := 1471) (pc' := 748) dL_law_745 rfl rfl h.1.1 h.1.2 (fun hc => ?_) (fun hc => ?_)
                  · have h := h.2.1 hc
                    refine zr_iinc (pc' := 1474) (al' := [(4, .inl (l4 + 7)), (3, .inr (.inr 165)), (2, .inr (.inr 102)), (1, .inr (.inr 0)), (0, .inr (.inr (-100)))]) dL_law_1471 rfl rfl (by decide) rfl ?_
                    refine zr_goto (pc' := 23) dL_law_1474 rfl ?_
                    obtain ⟨n', hn, h⟩ := h
                    exact zl_al (ih n' hn _ _ _ _ h) ⟨rfl, rfl, rfl, rfl, rfl, trivial⟩
                  · have h := h.2.2 hc
                    refine zr_iconst (pc' := 749) dL_law_748 rfl ?_
                    exact zr_ireturn dL_law_749 rfl rfl (Or.inl rfl) kc ks (And.intro rfl h)
                · have h := h.2.2 hc
                  refine zr_iconst (pc' := 738) dL_law_737 rfl ?_
                  refine zr_goto (pc' := 742) dL_law_738 rfl ?_
                  refine zl_callV (pc' := 745) (args := [.inl ((E.2.2.2.2.2.2 ((l4 + 1).toNat)).toInt), .inl 0, .inl 1]) (st := [.inl r67]) (st' := fun r71 => [.inl r71, .inl r67]) dL_law_742 rfl cv_L_80 ⟨rfl, rfl, by decide, by decide⟩ rfl ps_102 kd_102 rfl rfl (Nat.le_of_ble_eq_true rfl) (fun _ => rfl) kc ks h ?_
                  intro r71 M72 h
                  refine zr_icmp_eq (tgt := 1471) (pc' := 748) dL_law_745 rfl rfl h.1.1 h.1.2 (fun hc => ?_) (fun hc => ?_)
                  · have h := h.2.1 hc
                    refine zr_iinc (pc' := 1474) (al' := [(4, .inl (l4 + 7)), (3, .inr (.inr 165)), (2, .inr (.inr 102)), (1, .inr (.inr 0)), (0, .inr (.inr (-100)))]) dL_law_1471 rfl rfl (by decide) rfl ?_
                    refine zr_goto (pc' := 23) dL_law_1474 rfl ?_
                    obtain ⟨n', hn, h⟩ := h
                    exact zl_al (ih n' hn _ _ _ _ h) ⟨rfl, rfl, rfl, rfl, rfl, trivial⟩
                  · have h := h.2.2 hc
                    refine zr_iconst (pc' := 749) dL_law_748 rfl ?_
                    exact zr_ireturn dL_law_749 rfl rfl (Or.inl rfl) kc ks (And.intro rfl h)
              · have h := h.2.2 hc
                refine zr_iconst (pc' := 724) dL_law_723 rfl ?_
                refine zr_goto (pc' := 728) dL_law_724 rfl ?_
                refine zr_aload_n (pc' := 729) (i := 0) dL_law_728 rfl rfl rfl ?_
                refine zr_iload (pc' := 731) dL_law_729 rfl rfl ?_
                refine zr_iconst (pc' := 732) dL_law_731 rfl ?_
                refine zr_iadd (pc' := 733) dL_law_732 rfl ?_
                refine zr_sld (pc' := 734) dL_law_733 rfl hL h.1.1 h.1.2 ?_
                have h := h.2
                refine zr_if_eq (tgt := 741) (pc' := 737) dL_law_734 rfl rfl h.1 (fun hc => ?_) (fun hc => ?_)
                · have h := h.2.1 hc
                  refine zr_iconst (pc' := 742) dL_law_741 rfl ?_
                  refine zl_callV (pc' := 745) (args := [.inl ((E.2.2.2.2.2.2 ((l4 + 1).toNat)).toInt), .inl 1, .inl 0]) (st := [.inl r67]) (st' := fun r73 => [.inl r73, .inl r67]) dL_law_742 rfl cv_L_80 ⟨rfl, rfl, by decide, by decide⟩ rfl ps_102 kd_102 rfl rfl (Nat.le_of_ble_eq_true rfl) (fun _ => rfl) kc ks h ?_
                  intro r73 M74 h
                  refine zr_icmp_eq (tgt := 1471) (pc' := 748) dL_law_745 rfl rfl h.1.1 h.1.2 (fun hc => ?_) (fun hc => ?_)
                  · have h := h.2.1 hc
                    refine zr_iinc (pc' := 1474) (al' := [(4, .inl (l4 + 7)), (3, .inr (.inr 165)), (2, .inr (.inr 102)), (1, .inr (.inr 0)), (0, .inr (.inr (-100)))]) dL_law_1471 rfl rfl (by decide) rfl ?_
                    refine zr_goto (pc' := 23) dL_law_1474 rfl ?_
                    obtain ⟨n', hn, h⟩ := h
                    exact zl_al (ih n' hn _ _ _ _ h) ⟨rfl, rfl, rfl, rfl, rfl, trivial⟩
                  · have h := h.2.2 hc
                    refine zr_iconst (pc' := 749) dL_law_748 rfl ?_
                    exact zr_ireturn dL_law_749 rfl rfl (Or.inl rfl) kc ks (And.intro rfl h)
                · have h := h.2.2 hc
                  refine zr_iconst (pc' := 738) dL_law_737 rfl ?_
                  refine zr_goto (pc' := 742) dL_law_738 rfl ?_
                  refine zl_callV (pc' := 745) (args := [.inl ((E.2.2.2.2.2.2 ((l4 + 1).toNat)).toInt), .inl 1, .inl 1]) (st := [.inl r67]) (st' := fun r75 => [.inl r75, .inl r67]) dL_law_742 rfl cv_L_80 ⟨rfl, rfl, by decide, by decide⟩ rfl ps_102 kd_102 rfl rfl (Nat.le_of_ble_eq_true rfl) (fun _ => rfl) kc ks h ?_
                  intro r75 M76 h
                  refine zr_icmp_eq (tgt := 1471) (pc' := 748) dL_law_745 rfl rfl h.1.1 h.1.2 (fun hc => ?_) (fun hc => ?_)
                  · have h := h.2.1 hc
                    refine zr_iinc (pc' := 1474) (al' := [(4, .inl (l4 + 7)), (3, .inr (.inr 165)), (2, .inr (.inr 102)), (1, .inr (.inr 0)), (0, .inr (.inr (-100)))]) dL_law_1471 rfl rfl (by decide) rfl ?_
                    refine zr_goto (pc' := 23) dL_law_1474 rfl ?_
                    obtain ⟨n', hn, h⟩ := h
                    exact zl_al (ih n' hn _ _ _ _ h) ⟨rfl, rfl, rfl, rfl, rfl, trivial⟩
                  · have h := h.2.2 hc
                    refine zr_iconst (pc' := 749) dL_law_748 rfl ?_
                    exact zr_ireturn dL_law_749 rfl rfl (Or.inl rfl) kc ks (And.intro rfl h)
          · have h := h.2.2 hc
            refine zr_iconst (pc' := 686) dL_law_685 rfl ?_
            refine zr_goto (pc' := 690) dL_law_686 rfl ?_
            refine zr_aload_n (pc' := 691) (i := 0) dL_law_690 rfl rfl rfl ?_
            refine zr_iload (pc' := 693) dL_law_691 rfl rfl ?_
            refine zr_iconst (pc' := 694) dL_law_693 rfl ?_
            refine zr_iadd (pc' := 695) dL_law_694 rfl ?_
            refine zr_sld (pc' := 696) dL_law_695 rfl hL h.1.1 h.1.2 ?_
            have h := h.2
            refine zr_if_eq (tgt := 703) (pc' := 699) dL_law_696 rfl rfl h.1 (fun hc => ?_) (fun hc => ?_)
            · have h := h.2.1 hc
              refine zr_iconst (pc' := 704) dL_law_703 rfl ?_
              refine zl_callV (pc' := 707) (args := [.inl ((E.2.2.2.2.2.2 ((l4 + 1).toNat)).toInt), .inl 1, .inl 0]) (st := []) (st' := fun r77 => [.inl r77]) dL_law_704 rfl cv_L_76 ⟨rfl, rfl, by decide, by decide⟩ rfl ps_0 kd_0 rfl rfl (Nat.le_of_ble_eq_true rfl) (fun _ => rfl) kc ks h ?_
              intro r77 M78 h
              refine zr_aload_n (pc' := 708) (i := 2) dL_law_707 rfl rfl rfl ?_
              refine zr_aload_n (pc' := 709) (i := 0) dL_law_708 rfl rfl rfl ?_
              refine zr_iload (pc' := 711) dL_law_709 rfl rfl ?_
              refine zr_iconst (pc' := 712) dL_law_711 rfl ?_
              refine zr_iadd (pc' := 713) dL_law_712 rfl ?_
              refine zr_sld (pc' := 714) dL_law_713 rfl hL h.1.1 h.1.2 ?_
              have h := h.2
              refine zr_aload_n (pc' := 715) (i := 0) dL_law_714 rfl rfl rfl ?_
              refine zr_iload (pc' := 717) dL_law_715 rfl rfl ?_
              refine zr_iconst (pc' := 718) dL_law_717 rfl ?_
              refine zr_iadd (pc' := 719) dL_law_718 rfl ?_
              refine zr_sld (pc' := 720) dL_law_719 rfl hL h.1.1 h.1.2 ?_
              have h := h.2
              refine zr_if_eq (tgt := 727) (pc' := 723) dL_law_720 rfl rfl h.1 (fun hc => ?_) (fun hc => ?_)
              · have h := h.2.1 hc
                refine zr_iconst (pc' := 728) dL_law_727 rfl ?_
                refine zr_aload_n (pc' := 729) (i := 0) dL_law_728 rfl rfl rfl ?_
                refine zr_iload (pc' := 731) dL_law_729 rfl rfl ?_
                refine zr_iconst (pc' := 732) dL_law_731 rfl ?_
                refine zr_iadd (pc' := 733) dL_law_732 rfl ?_
                refine zr_sld (pc' := 734) dL_law_733 rfl hL h.1.1 h.1.2 ?_
                have h := h.2
                refine zr_if_eq (tgt := 741) (pc' := 737) dL_law_734 rfl rfl h.1 (fun hc => ?_) (fun hc => ?_)
                · have h := h.2.1 hc
                  refine zr_iconst (pc' := 742) dL_law_741 rfl ?_
                  refine zl_callV (pc' := 745) (args := [.inl ((E.2.2.2.2.2.2 ((l4 + 1).toNat)).toInt), .inl 0, .inl 0]) (st := [.inl r77]) (st' := fun r79 => [.inl r79, .inl r77]) dL_law_742 rfl cv_L_80 ⟨rfl, rfl, by decide, by decide⟩ rfl ps_102 kd_102 rfl rfl (Nat.le_of_ble_eq_true rfl) (fun _ => rfl) kc ks h ?_
                  intro r79 M80 h
                  refine zr_icmp_eq (tgt := 1471) (pc' := 748) dL_law_745 rfl rfl h.1.1 h.1.2 (fun hc => ?_) (fun hc => ?_)
                  · have h := h.2.1 hc
                    refine zr_iinc (pc' := 1474) (al' := [(4, .inl (l4 + 7)), (3, .inr (.inr 165)), (2, .inr (.inr 102)), (1, .inr (.inr 0)), (0, .inr (.inr (-100)))]) dL_law_1471 rfl rfl (by decide) rfl ?_
                    refine zr_goto (pc' := 23) dL_law_1474 rfl ?_
                    obtain ⟨n', hn, h⟩ := h
                    exact zl_al (ih n' hn _ _ _ _ h) ⟨rfl, rfl, rfl, rfl, rfl, trivial⟩
                  · have h := h.2.2 hc
                    refine zr_iconst (pc' := 749) dL_law_748 rfl ?_
                    exact zr_ireturn dL_law_749 rfl rfl (Or.inl rfl) kc ks (And.intro rfl h)
                · have h := h.2.2 hc
                  refine zr_iconst (pc' := 738) dL_law_737 rfl ?_
                  refine zr_goto (pc' := 742) dL_law_738 rfl ?_
                  refine zl_callV (pc' := 745) (args := [.inl ((E.2.2.2.2.2.2 ((l4 + 1).toNat)).toInt), .inl 0, .inl 1]) (st := [.inl r77]) (st' := fun r81 => [.inl r81, .inl r77]) dL_law_742 rfl cv_L_80 ⟨rfl, rfl, by decide, by decide⟩ rfl ps_102 kd_102 rfl rfl (Nat.le_of_ble_eq_true rfl) (fun _ => rfl) kc ks h ?_
                  intro r81 M82 h
                  refine zr_icmp_eq (tgt := 1471) (pc' := 748) dL_law_745 rfl rfl h.1.1 h.1.2 (fun hc => ?_) (fun hc => ?_)
                  · have h := h.2.1 hc
                    refine zr_iinc (pc' := 1474) (al' := [(4, .inl (l4 + 7)), (3, .inr (.inr 165)), (2, .inr (.inr 102)), (1, .inr (.inr 0)), (0, .inr (.inr (-100)))]) dL_law_1471 rfl rfl (by decide) rfl ?_
                    refine zr_goto (pc' := 23) dL_law_1474 rfl ?_
                    obtain ⟨n', hn, h⟩ := h
                    exact zl_al (ih n' hn _ _ _ _ h) ⟨rfl, rfl, rfl, rfl, rfl, trivial⟩
                  · have h := h.2.2 hc
                    refine zr_iconst (pc' := 749) dL_law_748 rfl ?_
                    exact zr_ireturn dL_law_749 rfl rfl (Or.inl rfl) kc ks (And.intro rfl h)
              · have h := h.2.2 hc
                refine zr_iconst (pc' := 724) dL_law_723 rfl ?_
                refine zr_goto (pc' := 728) dL_law_724 rfl ?_
                refine zr_aload_n (pc' := 729) (i := 0) dL_law_728 rfl rfl rfl ?_
                refine zr_iload (pc' := 731) dL_law_729 rfl rfl ?_
                refine zr_iconst (pc' := 732) dL_law_731 rfl ?_
                refine zr_iadd (pc' := 733) dL_law_732 rfl ?_
                refine zr_sld (pc' := 734) dL_law_733 rfl hL h.1.1 h.1.2 ?_
                have h := h.2
                refine zr_if_eq (tgt := 741) (pc' := 737) dL_law_734 rfl rfl h.1 (fun hc => ?_) (fun hc => ?_)
                · have h := h.2.1 hc
                  refine zr_iconst (pc' := 742) dL_law_741 rfl ?_
                  refine zl_callV (pc' := 745) (args := [.inl ((E.2.2.2.2.2.2 ((l4 + 1).toNat)).toInt), .inl 1, .inl 0]) (st := [.inl r77]) (st' := fun r83 => [.inl r83, .inl r77]) dL_law_742 rfl cv_L_80 ⟨rfl, rfl, by decide, by decide⟩ rfl ps_102 kd_102 rfl rfl (Nat.le_of_ble_eq_true rfl) (fun _ => rfl) kc ks h ?_
                  intro r83 M84 h
                  refine zr_icmp_eq (tgt := 1471) (pc' := 748) dL_law_745 rfl rfl h.1.1 h.1.2 (fun hc => ?_) (fun hc => ?_)
                  · have h := h.2.1 hc
                    refine zr_iinc (pc' := 1474) (al' := [(4, .inl (l4 + 7)), (3, .inr (.inr 165)), (2, .inr (.inr 102)), (1, .inr (.inr 0)), (0, .inr (.inr (-100)))]) dL_law_1471 rfl rfl (by decide) rfl ?_
                    refine zr_goto (pc' := 23) dL_law_1474 rfl ?_
                    obtain ⟨n', hn, h⟩ := h
                    exact zl_al (ih n' hn _ _ _ _ h) ⟨rfl, rfl, rfl, rfl, rfl, trivial⟩
                  · have h := h.2.2 hc
                    refine zr_iconst (pc' := 749) dL_law_748 rfl ?_
                    exact zr_ireturn dL_law_749 rfl rfl (Or.inl rfl) kc ks (And.intro rfl h)
                · have h := h.2.2 hc
                  refine zr_iconst (pc' := 738) dL_law_737 rfl ?_
                  refine zr_goto (pc' := 742) dL_law_738 rfl ?_
                  refine zl_callV (pc' := 745) (args := [.inl ((E.2.2.2.2.2.2 ((l4 + 1).toNat)).toInt), .inl 1, .inl 1]) (st := [.inl r77]) (st' := fun r85 => [.inl r85, .inl r77]) dL_law_742 rfl cv_L_80 ⟨rfl, rfl, by decide, by decide⟩ rfl ps_102 kd_102 rfl rfl (Nat.le_of_ble_eq_true rfl) (fun _ => rfl) kc ks h ?_
                  intro r85 M86 h
                  refine zr_icmp_eq (tgt := 1471) (pc' := 748) dL_law_745 rfl rfl h.1.1 h.1.2 (fun hc => ?_) (fun hc => ?_)
                  · have h := h.2.1 hc
                    refine zr_iinc (pc' := 1474) (al' := [(4, .inl (l4 + 7)), (3, .inr (.inr 165)), (2, .inr (.inr 102)), (1, .inr (.inr 0)), (0, .inr (.inr (-100)))]) dL_law_1471 rfl rfl (by decide) rfl ?_
                    refine zr_goto (pc' := 23) dL_law_1474 rfl ?_
                    obtain ⟨n', hn, h⟩ := h
                    exact zl_al (ih n' hn _ _ _ _ h) ⟨rfl, rfl, rfl, rfl, rfl, trivial⟩
                  · have h := h.2.2 hc
                    refine zr_iconst (pc' := 749) dL_law_748 rfl ?_
                    exact zr_ireturn dL_law_749 rfl rfl (Or.inl rfl) kc ks (And.intro rfl h)
            · have h := h.2.2 hc
              refine zr_iconst (pc' := 700) dL_law_699 rfl ?_
              refine zr_goto (pc' := 704) dL_law_700 rfl ?_
              refine zl_callV (pc' := 707) (args := [.inl ((E.2.2.2.2.2.2 ((l4 + 1).toNat)).toInt), .inl 1, .inl 1]) (st := []) (st' := fun r87 => [.inl r87]) dL_law_704 rfl cv_L_76 ⟨rfl, rfl, by decide, by decide⟩ rfl ps_0 kd_0 rfl rfl (Nat.le_of_ble_eq_true rfl) (fun _ => rfl) kc ks h ?_
              intro r87 M88 h
              refine zr_aload_n (pc' := 708) (i := 2) dL_law_707 rfl rfl rfl ?_
              refine zr_aload_n (pc' := 709) (i := 0) dL_law_708 rfl rfl rfl ?_
              refine zr_iload (pc' := 711) dL_law_709 rfl rfl ?_
              refine zr_iconst (pc' := 712) dL_law_711 rfl ?_
              refine zr_iadd (pc' := 713) dL_law_712 rfl ?_
              refine zr_sld (pc' := 714) dL_law_713 rfl hL h.1.1 h.1.2 ?_
              have h := h.2
              refine zr_aload_n (pc' := 715) (i := 0) dL_law_714 rfl rfl rfl ?_
              refine zr_iload (pc' := 717) dL_law_715 rfl rfl ?_
              refine zr_iconst (pc' := 718) dL_law_717 rfl ?_
              refine zr_iadd (pc' := 719) dL_law_718 rfl ?_
              refine zr_sld (pc' := 720) dL_law_719 rfl hL h.1.1 h.1.2 ?_
              have h := h.2
              refine zr_if_eq (tgt := 727) (pc' := 723) dL_law_720 rfl rfl h.1 (fun hc => ?_) (fun hc => ?_)
              · have h := h.2.1 hc
                refine zr_iconst (pc' := 728) dL_law_727 rfl ?_
                refine zr_aload_n (pc' := 729) (i := 0) dL_law_728 rfl rfl rfl ?_
                refine zr_iload (pc' := 731) dL_law_729 rfl rfl ?_
                refine zr_iconst (pc' := 732) dL_law_731 rfl ?_
                refine zr_iadd (pc' := 733) dL_law_732 rfl ?_
                refine zr_sld (pc' := 734) dL_law_733 rfl hL h.1.1 h.1.2 ?_
                have h := h.2
                refine zr_if_eq (tgt := 741) (pc' := 737) dL_law_734 rfl rfl h.1 (fun hc => ?_) (fun hc => ?_)
                · have h := h.2.1 hc
                  refine zr_iconst (pc' := 742) dL_law_741 rfl ?_
                  refine zl_callV (pc' := 745) (args := [.inl ((E.2.2.2.2.2.2 ((l4 + 1).toNat)).toInt), .inl 0, .inl 0]) (st := [.inl r87]) (st' := fun r89 => [.inl r89, .inl r87]) dL_law_742 rfl cv_L_80 ⟨rfl, rfl, by decide, by decide⟩ rfl ps_102 kd_102 rfl rfl (Nat.le_of_ble_eq_true rfl) (fun _ => rfl) kc ks h ?_
                  intro r89 M90 h
                  refine zr_icmp_eq (tgt := 1471) (pc' := 748) dL_law_745 rfl rfl h.1.1 h.1.2 (fun hc => ?_) (fun hc => ?_)
                  · have h := h.2.1 hc
                    refine zr_iinc (pc' := 1474) (al' := [(4, .inl (l4 + 7)), (3, .inr (.inr 165)), (2, .inr (.inr 102)), (1, .inr (.inr 0)), (0, .inr (.inr (-100)))]) dL_law_1471 rfl rfl (by decide) rfl ?_
                    refine zr_goto (pc' := 23) dL_law_1474 rfl ?_
                    obtain ⟨n', hn, h⟩ := h
                    exact zl_al (ih n' hn _ _ _ _ h) ⟨rfl, rfl, rfl, rfl, rfl, trivial⟩
                  · have h := h.2.2 hc
                    refine zr_iconst (pc' := 749) dL_law_748 rfl ?_
                    exact zr_ireturn dL_law_749 rfl rfl (Or.inl rfl) kc ks (And.intro rfl h)
                · have h := h.2.2 hc
                  refine zr_iconst (pc' := 738) dL_law_737 rfl ?_
                  refine zr_goto (pc' := 742) dL_law_738 rfl ?_
                  refine zl_callV (pc' := 745) (args := [.inl ((E.2.2.2.2.2.2 ((l4 + 1).toNat)).toInt), .inl 0, .inl 1]) (st := [.inl r87]) (st' := fun r91 => [.inl r91, .inl r87]) dL_law_742 rfl cv_L_80 ⟨rfl, rfl, by decide, by decide⟩ rfl ps_102 kd_102 rfl rfl (Nat.le_of_ble_eq_true rfl) (fun _ => rfl) kc ks h ?_
                  intro r91 M92 h
                  refine zr_icmp_eq (tgt := 1471) (pc' := 748) dL_law_745 rfl rfl h.1.1 h.1.2 (fun hc => ?_) (fun hc => ?_)
                  · have h := h.2.1 hc
                    refine zr_iinc (pc' := 1474) (al' := [(4, .inl (l4 + 7)), (3, .inr (.inr 165)), (2, .inr (.inr 102)), (1, .inr (.inr 0)), (0, .inr (.inr (-100)))]) dL_law_1471 rfl rfl (by decide) rfl ?_
                    refine zr_goto (pc' := 23) dL_law_1474 rfl ?_
                    obtain ⟨n', hn, h⟩ := h
                    exact zl_al (ih n' hn _ _ _ _ h) ⟨rfl, rfl, rfl, rfl, rfl, trivial⟩
                  · have h := h.2.2 hc
                    refine zr_iconst (pc' := 749) dL_law_748 rfl ?_
                    exact zr_ireturn dL_law_749 rfl rfl (Or.inl rfl) kc ks (And.intro rfl h)
              · have h := h.2.2 hc
                refine zr_iconst (pc' := 724) dL_law_723 rfl ?_
                refine zr_goto (pc' := 728) dL_law_724 rfl ?_
                refine zr_aload_n (pc' := 729) (i := 0) dL_law_728 rfl rfl rfl ?_
                refine zr_iload (pc' := 731) dL_law_729 rfl rfl ?_
                refine zr_iconst (pc' := 732) dL_law_731 rfl ?_
                refine zr_iadd (pc' := 733) dL_law_732 rfl ?_
                refine zr_sld (pc' := 734) dL_law_733 rfl hL h.1.1 h.1.2 ?_
                have h := h.2
                refine zr_if_eq (tgt := 741) (pc' := 737) dL_law_734 rfl rfl h.1 (fun hc => ?_) (fun hc => ?_)
                · have h := h.2.1 hc
                  refine zr_iconst (pc' := 742) dL_law_741 rfl ?_
                  refine zl_callV (pc' := 745) (args := [.inl ((E.2.2.2.2.2.2 ((l4 + 1).toNat)).toInt), .inl 1, .inl 0]) (st := [.inl r87]) (st' := fun r93 => [.inl r93, .inl r87]) dL_law_742 rfl cv_L_80 ⟨rfl, rfl, by decide, by decide⟩ rfl ps_102 kd_102 rfl rfl (Nat.le_of_ble_eq_true rfl) (fun _ => rfl) kc ks h ?_
                  intro r93 M94 h
                  refine zr_icmp_eq (tgt := 1471) (pc' := 748) dL_law_745 rfl rfl h.1.1 h.1.2 (fun hc => ?_) (fun hc => ?_)
                  · have h := h.2.1 hc
                    refine zr_iinc (pc' := 1474) (al' := [(4, .inl (l4 + 7)), (3, .inr (.inr 165)), (2, .inr (.inr 102)), (1, .inr (.inr 0)), (0, .inr (.inr (-100)))]) dL_law_1471 rfl rfl (by decide) rfl ?_
                    refine zr_goto (pc' := 23) dL_law_1474 rfl ?_
                    obtain ⟨n', hn, h⟩ := h
                    exact zl_al (ih n' hn _ _ _ _ h) ⟨rfl, rfl, rfl, rfl, rfl, trivial⟩
                  · have h := h.2.2 hc
                    refine zr_iconst (pc' := 749) dL_law_748 rfl ?_
                    exact zr_ireturn dL_law_749 rfl rfl (Or.inl rfl) kc ks (And.intro rfl h)
                · have h := h.2.2 hc
                  refine zr_iconst (pc' := 738) dL_law_737 rfl ?_
                  refine zr_goto (pc' := 742) dL_law_738 rfl ?_
                  refine zl_callV (pc' := 745) (args := [.inl ((E.2.2.2.2.2.2 ((l4 + 1).toNat)).toInt), .inl 1, .inl 1]) (st := [.inl r87]) (st' := fun r95 => [.inl r95, .inl r87]) dL_law_742 rfl cv_L_80 ⟨rfl, rfl, by decide, by decide⟩ rfl ps_102 kd_102 rfl rfl (Nat.le_of_ble_eq_true rfl) (fun _ => rfl) kc ks h ?_
                  intro r95 M96 h
                  refine zr_icmp_eq (tgt := 1471) (pc' := 748) dL_law_745 rfl rfl h.1.1 h.1.2 (fun hc => ?_) (fun hc => ?_)
                  · have h := h.2.1 hc
                    refine zr_iinc (pc' := 1474) (al' := [(4, .inl (l4 + 7)), (3, .inr (.inr 165)), (2, .inr (.inr 102)), (1, .inr (.inr 0)), (0, .inr (.inr (-100)))]) dL_law_1471 rfl rfl (by decide) rfl ?_
                    refine zr_goto (pc' := 23) dL_law_1474 rfl ?_
                    obtain ⟨n', hn, h⟩ := h
                    exact zl_al (ih n' hn _ _ _ _ h) ⟨rfl, rfl, rfl, rfl, rfl, trivial⟩
                  · have h := h.2.2 hc
                    refine zr_iconst (pc' := 749) dL_law_748 rfl ?_
                    exact zr_ireturn dL_law_749 rfl rfl (Or.inl rfl) kc ks (And.intro rfl h)
        · refine zr_tableIn (off := 710) (tgt := 750) dL_law_40 h.1 (by omega) (by omega) (by rw [hsx]; rfl) rfl ?_
          have h := h.2.2.2.2.2.2.2.2.2.2.2.2.2.2.2.1 hsx
          refine zr_aload_n (pc' := 751) (i := 1) dL_law_750 rfl rfl rfl ?_
          refine zr_aload_n (pc' := 752) (i := 0) dL_law_751 rfl rfl rfl ?_
          refine zr_iload (pc' := 754) dL_law_752 rfl rfl ?_
          refine zr_iconst (pc' := 755) dL_law_754 rfl ?_
          refine zr_iadd (pc' := 756) dL_law_755 rfl ?_
          refine zr_sld (pc' := 757) dL_law_756 rfl hL h.1.1 h.1.2 ?_
          have h := h.2
          refine zr_aload_n (pc' := 758) (i := 0) dL_law_757 rfl rfl rfl ?_
          refine zr_iload (pc' := 760) dL_law_758 rfl rfl ?_
          refine zr_iconst (pc' := 761) dL_law_760 rfl ?_
          refine zr_iadd (pc' := 762) dL_law_761 rfl ?_
          refine zr_sld (pc' := 763) dL_law_762 rfl hL h.1.1 h.1.2 ?_
          have h := h.2
          refine zr_aload_n (pc' := 764) (i := 0) dL_law_763 rfl rfl rfl ?_
          refine zr_iload (pc' := 766) dL_law_764 rfl rfl ?_
          refine zr_iconst (pc' := 767) dL_law_766 rfl ?_
          refine zr_iadd (pc' := 768) dL_law_767 rfl ?_
          refine zr_sld (pc' := 769) dL_law_768 rfl hL h.1.1 h.1.2 ?_
          have h := h.2
          refine zr_aload_n (pc' := 770) (i := 0) dL_law_769 rfl rfl rfl ?_
          refine zr_iload (pc' := 772) dL_law_770 rfl rfl ?_
          refine zr_iconst (pc' := 773) dL_law_772 rfl ?_
          refine zr_iadd (pc' := 774) dL_law_773 rfl ?_
          refine zr_sld (pc' := 775) dL_law_774 rfl hL h.1.1 h.1.2 ?_
          have h := h.2
          refine zr_aload_n (pc' := 776) (i := 0) dL_law_775 rfl rfl rfl ?_
          refine zr_iload (pc' := 778) dL_law_776 rfl rfl ?_
          refine zr_iconst (pc' := 779) dL_law_778 rfl ?_
          refine zr_iadd (pc' := 780) dL_law_779 rfl ?_
          refine zr_sld (pc' := 781) dL_law_780 rfl hL h.1.1 h.1.2 ?_
          have h := h.2
          refine zl_callV (pc' := 784) (args := [.inl ((E.2.2.2.2.2.2 ((l4 + 1).toNat)).toInt), .inl ((E.2.2.2.2.2.2 ((l4 + 2).toNat)).toInt), .inl ((E.2.2.2.2.2.2 ((l4 + 3).toNat)).toInt), .inl ((E.2.2.2.2.2.2 ((l4 + 4).toNat)).toInt), .inl ((E.2.2.2.2.2.2 ((l4 + 5).toNat)).toInt)]) (st := []) (st' := fun r97 => [.inl r97]) dL_law_781 rfl cv_L_81 ⟨rfl, rfl, by decide, by decide⟩ rfl ps_0 kd_0 rfl rfl (Nat.le_of_ble_eq_true rfl) (fun _ => rfl) kc ks h ?_
          intro r97 M98 h
          refine zr_aload_n (pc' := 785) (i := 2) dL_law_784 rfl rfl rfl ?_
          refine zr_aload_n (pc' := 786) (i := 0) dL_law_785 rfl rfl rfl ?_
          refine zr_iload (pc' := 788) dL_law_786 rfl rfl ?_
          refine zr_iconst (pc' := 789) dL_law_788 rfl ?_
          refine zr_iadd (pc' := 790) dL_law_789 rfl ?_
          refine zr_sld (pc' := 791) dL_law_790 rfl hL h.1.1 h.1.2 ?_
          have h := h.2
          refine zr_aload_n (pc' := 792) (i := 0) dL_law_791 rfl rfl rfl ?_
          refine zr_iload (pc' := 794) dL_law_792 rfl rfl ?_
          refine zr_iconst (pc' := 795) dL_law_794 rfl ?_
          refine zr_iadd (pc' := 796) dL_law_795 rfl ?_
          refine zr_sld (pc' := 797) dL_law_796 rfl hL h.1.1 h.1.2 ?_
          have h := h.2
          refine zr_aload_n (pc' := 798) (i := 0) dL_law_797 rfl rfl rfl ?_
          refine zr_iload (pc' := 800) dL_law_798 rfl rfl ?_
          refine zr_iconst (pc' := 801) dL_law_800 rfl ?_
          refine zr_iadd (pc' := 802) dL_law_801 rfl ?_
          refine zr_sld (pc' := 803) dL_law_802 rfl hL h.1.1 h.1.2 ?_
          have h := h.2
          refine zr_aload_n (pc' := 804) (i := 0) dL_law_803 rfl rfl rfl ?_
          refine zr_iload (pc' := 806) dL_law_804 rfl rfl ?_
          refine zr_iconst (pc' := 807) dL_law_806 rfl ?_
          refine zr_iadd (pc' := 808) dL_law_807 rfl ?_
          refine zr_sld (pc' := 809) dL_law_808 rfl hL h.1.1 h.1.2 ?_
          have h := h.2
          refine zr_aload_n (pc' := 810) (i := 0) dL_law_809 rfl rfl rfl ?_
          refine zr_iload (pc' := 812) dL_law_810 rfl rfl ?_
          refine zr_iconst (pc' := 813) dL_law_812 rfl ?_
          refine zr_iadd (pc' := 814) dL_law_813 rfl ?_
          refine zr_sld (pc' := 815) dL_law_814 rfl hL h.1.1 h.1.2 ?_
          have h := h.2
          refine zl_callV (pc' := 818) (args := [.inl ((E.2.2.2.2.2.2 ((l4 + 1).toNat)).toInt), .inl ((E.2.2.2.2.2.2 ((l4 + 2).toNat)).toInt), .inl ((E.2.2.2.2.2.2 ((l4 + 3).toNat)).toInt), .inl ((E.2.2.2.2.2.2 ((l4 + 4).toNat)).toInt), .inl ((E.2.2.2.2.2.2 ((l4 + 5).toNat)).toInt)]) (st := [.inl r97]) (st' := fun r99 => [.inl r99, .inl r97]) dL_law_815 rfl cv_L_84 ⟨rfl, rfl, by decide, by decide⟩ rfl ps_102 kd_102 rfl rfl (Nat.le_of_ble_eq_true rfl) (fun _ => rfl) kc ks h ?_
          intro r99 M100 h
          refine zr_icmp_eq (tgt := 1471) (pc' := 821) dL_law_818 rfl rfl h.1.1 h.1.2 (fun hc => ?_) (fun hc => ?_)
          · have h := h.2.1 hc
            refine zr_iinc (pc' := 1474) (al' := [(4, .inl (l4 + 7)), (3, .inr (.inr 165)), (2, .inr (.inr 102)), (1, .inr (.inr 0)), (0, .inr (.inr (-100)))]) dL_law_1471 rfl rfl (by decide) rfl ?_
            refine zr_goto (pc' := 23) dL_law_1474 rfl ?_
            obtain ⟨n', hn, h⟩ := h
            exact zl_al (ih n' hn _ _ _ _ h) ⟨rfl, rfl, rfl, rfl, rfl, trivial⟩
          · have h := h.2.2 hc
            refine zr_iconst (pc' := 822) dL_law_821 rfl ?_
            exact zr_ireturn dL_law_822 rfl rfl (Or.inl rfl) kc ks (And.intro rfl h)
        · refine zr_tableIn (off := 783) (tgt := 823) dL_law_40 h.1 (by omega) (by omega) (by rw [hsx]; rfl) rfl ?_
          have h := h.2.2.2.2.2.2.2.2.2.2.2.2.2.2.2.2.1 hsx
          refine zr_aload_n (pc' := 824) (i := 1) dL_law_823 rfl rfl rfl ?_
          refine zr_aload_n (pc' := 825) (i := 0) dL_law_824 rfl rfl rfl ?_
          refine zr_iload (pc' := 827) dL_law_825 rfl rfl ?_
          refine zr_iconst (pc' := 828) dL_law_827 rfl ?_
          refine zr_iadd (pc' := 829) dL_law_828 rfl ?_
          refine zr_sld (pc' := 830) dL_law_829 rfl hL h.1.1 h.1.2 ?_
          have h := h.2
          refine zr_aload_n (pc' := 831) (i := 0) dL_law_830 rfl rfl rfl ?_
          refine zr_iload (pc' := 833) dL_law_831 rfl rfl ?_
          refine zr_iconst (pc' := 834) dL_law_833 rfl ?_
          refine zr_iadd (pc' := 835) dL_law_834 rfl ?_
          refine zr_sld (pc' := 836) dL_law_835 rfl hL h.1.1 h.1.2 ?_
          have h := h.2
          refine zr_aload_n (pc' := 837) (i := 0) dL_law_836 rfl rfl rfl ?_
          refine zr_iload (pc' := 839) dL_law_837 rfl rfl ?_
          refine zr_iconst (pc' := 840) dL_law_839 rfl ?_
          refine zr_iadd (pc' := 841) dL_law_840 rfl ?_
          refine zr_sld (pc' := 842) dL_law_841 rfl hL h.1.1 h.1.2 ?_
          have h := h.2
          refine zr_aload_n (pc' := 843) (i := 0) dL_law_842 rfl rfl rfl ?_
          refine zr_iload (pc' := 845) dL_law_843 rfl rfl ?_
          refine zr_iconst (pc' := 846) dL_law_845 rfl ?_
          refine zr_iadd (pc' := 847) dL_law_846 rfl ?_
          refine zr_sld (pc' := 848) dL_law_847 rfl hL h.1.1 h.1.2 ?_
          have h := h.2
          refine zl_callV (pc' := 851) (args := [.inl ((E.2.2.2.2.2.2 ((l4 + 1).toNat)).toInt), .inl ((E.2.2.2.2.2.2 ((l4 + 2).toNat)).toInt), .inl ((E.2.2.2.2.2.2 ((l4 + 3).toNat)).toInt), .inl ((E.2.2.2.2.2.2 ((l4 + 4).toNat)).toInt)]) (st := []) (st' := fun r101 => [.inl r101]) dL_law_848 rfl cv_L_85 ⟨rfl, rfl, by decide, by decide⟩ rfl ps_0 kd_0 rfl rfl (Nat.le_of_ble_eq_true rfl) (fun _ => rfl) kc ks h ?_
          intro r101 M102 h
          refine zr_aload_n (pc' := 852) (i := 2) dL_law_851 rfl rfl rfl ?_
          refine zr_aload_n (pc' := 853) (i := 0) dL_law_852 rfl rfl rfl ?_
          refine zr_iload (pc' := 855) dL_law_853 rfl rfl ?_
          refine zr_iconst (pc' := 856) dL_law_855 rfl ?_
          refine zr_iadd (pc' := 857) dL_law_856 rfl ?_
          refine zr_sld (pc' := 858) dL_law_857 rfl hL h.1.1 h.1.2 ?_
          have h := h.2
          refine zr_aload_n (pc' := 859) (i := 0) dL_law_858 rfl rfl rfl ?_
          refine zr_iload (pc' := 861) dL_law_859 rfl rfl ?_
          refine zr_iconst (pc' := 862) dL_law_861 rfl ?_
          refine zr_iadd (pc' := 863) dL_law_862 rfl ?_
          refine zr_sld (pc' := 864) dL_law_863 rfl hL h.1.1 h.1.2 ?_
          have h := h.2
          refine zr_aload_n (pc' := 865) (i := 0) dL_law_864 rfl rfl rfl ?_
          refine zr_iload (pc' := 867) dL_law_865 rfl rfl ?_
          refine zr_iconst (pc' := 868) dL_law_867 rfl ?_
          refine zr_iadd (pc' := 869) dL_law_868 rfl ?_
          refine zr_sld (pc' := 870) dL_law_869 rfl hL h.1.1 h.1.2 ?_
          have h := h.2
          refine zr_aload_n (pc' := 871) (i := 0) dL_law_870 rfl rfl rfl ?_
          refine zr_iload (pc' := 873) dL_law_871 rfl rfl ?_
          refine zr_iconst (pc' := 874) dL_law_873 rfl ?_
          refine zr_iadd (pc' := 875) dL_law_874 rfl ?_
          refine zr_sld (pc' := 876) dL_law_875 rfl hL h.1.1 h.1.2 ?_
          have h := h.2
          refine zl_callV (pc' := 879) (args := [.inl ((E.2.2.2.2.2.2 ((l4 + 1).toNat)).toInt), .inl ((E.2.2.2.2.2.2 ((l4 + 2).toNat)).toInt), .inl ((E.2.2.2.2.2.2 ((l4 + 3).toNat)).toInt), .inl ((E.2.2.2.2.2.2 ((l4 + 4).toNat)).toInt)]) (st := [.inl r101]) (st' := fun r103 => [.inl r103, .inl r101]) dL_law_876 rfl cv_L_89 ⟨rfl, rfl, by decide, by decide⟩ rfl ps_102 kd_102 rfl rfl (Nat.le_of_ble_eq_true rfl) (fun _ => rfl) kc ks h ?_
          intro r103 M104 h
          refine zr_icmp_eq (tgt := 1471) (pc' := 882) dL_law_879 rfl rfl h.1.1 h.1.2 (fun hc => ?_) (fun hc => ?_)
          · have h := h.2.1 hc
            refine zr_iinc (pc' := 1474) (al' := [(4, .inl (l4 + 7)), (3, .inr (.inr 165)), (2, .inr (.inr 102)), (1, .inr (.inr 0)), (0, .inr (.inr (-100)))]) dL_law_1471 rfl rfl (by decide) rfl ?_
            refine zr_goto (pc' := 23) dL_law_1474 rfl ?_
            obtain ⟨n', hn, h⟩ := h
            exact zl_al (ih n' hn _ _ _ _ h) ⟨rfl, rfl, rfl, rfl, rfl, trivial⟩
          · have h := h.2.2 hc
            refine zr_iconst (pc' := 883) dL_law_882 rfl ?_
            exact zr_ireturn dL_law_883 rfl rfl (Or.inl rfl) kc ks (And.intro rfl h)
        · refine zr_tableIn (off := 844) (tgt := 884) dL_law_40 h.1 (by omega) (by omega) (by rw [hsx]; rfl) rfl ?_
          have h := h.2.2.2.2.2.2.2.2.2.2.2.2.2.2.2.2.2.1 hsx
          refine zr_aload_n (pc' := 885) (i := 1) dL_law_884 rfl rfl rfl ?_
          refine zr_aload_n (pc' := 886) (i := 0) dL_law_885 rfl rfl rfl ?_
          refine zr_iload (pc' := 888) dL_law_886 rfl rfl ?_
          refine zr_iconst (pc' := 889) dL_law_888 rfl ?_
          refine zr_iadd (pc' := 890) dL_law_889 rfl ?_
          refine zr_sld (pc' := 891) dL_law_890 rfl hL h.1.1 h.1.2 ?_
          have h := h.2
          refine zr_aload_n (pc' := 892) (i := 0) dL_law_891 rfl rfl rfl ?_
          refine zr_iload (pc' := 894) dL_law_892 rfl rfl ?_
          refine zr_iconst (pc' := 895) dL_law_894 rfl ?_
          refine zr_iadd (pc' := 896) dL_law_895 rfl ?_
          refine zr_sld (pc' := 897) dL_law_896 rfl hL h.1.1 h.1.2 ?_
          have h := h.2
          refine zl_callV (pc' := 900) (args := [.inl ((E.2.2.2.2.2.2 ((l4 + 1).toNat)).toInt), .inl ((E.2.2.2.2.2.2 ((l4 + 2).toNat)).toInt)]) (st := []) (st' := fun r105 => [.inl r105]) dL_law_897 rfl cv_L_90 ⟨rfl, rfl, by decide, by decide⟩ rfl ps_0 kd_0 rfl rfl (Nat.le_of_ble_eq_true rfl) (fun _ => rfl) kc ks h ?_
          intro r105 M106 h
          refine zr_aload_n (pc' := 901) (i := 2) dL_law_900 rfl rfl rfl ?_
          refine zr_aload_n (pc' := 902) (i := 0) dL_law_901 rfl rfl rfl ?_
          refine zr_iload (pc' := 904) dL_law_902 rfl rfl ?_
          refine zr_iconst (pc' := 905) dL_law_904 rfl ?_
          refine zr_iadd (pc' := 906) dL_law_905 rfl ?_
          refine zr_sld (pc' := 907) dL_law_906 rfl hL h.1.1 h.1.2 ?_
          have h := h.2
          refine zr_aload_n (pc' := 908) (i := 0) dL_law_907 rfl rfl rfl ?_
          refine zr_iload (pc' := 910) dL_law_908 rfl rfl ?_
          refine zr_iconst (pc' := 911) dL_law_910 rfl ?_
          refine zr_iadd (pc' := 912) dL_law_911 rfl ?_
          refine zr_sld (pc' := 913) dL_law_912 rfl hL h.1.1 h.1.2 ?_
          have h := h.2
          refine zl_callV (pc' := 916) (args := [.inl ((E.2.2.2.2.2.2 ((l4 + 1).toNat)).toInt), .inl ((E.2.2.2.2.2.2 ((l4 + 2).toNat)).toInt)]) (st := [.inl r105]) (st' := fun r107 => [.inl r107, .inl r105]) dL_law_913 rfl cv_L_93 ⟨rfl, rfl, by decide, by decide⟩ rfl ps_102 kd_102 rfl rfl (Nat.le_of_ble_eq_true rfl) (fun _ => rfl) kc ks h ?_
          intro r107 M108 h
          refine zr_icmp_eq (tgt := 1471) (pc' := 919) dL_law_916 rfl rfl h.1.1 h.1.2 (fun hc => ?_) (fun hc => ?_)
          · have h := h.2.1 hc
            refine zr_iinc (pc' := 1474) (al' := [(4, .inl (l4 + 7)), (3, .inr (.inr 165)), (2, .inr (.inr 102)), (1, .inr (.inr 0)), (0, .inr (.inr (-100)))]) dL_law_1471 rfl rfl (by decide) rfl ?_
            refine zr_goto (pc' := 23) dL_law_1474 rfl ?_
            obtain ⟨n', hn, h⟩ := h
            exact zl_al (ih n' hn _ _ _ _ h) ⟨rfl, rfl, rfl, rfl, rfl, trivial⟩
          · have h := h.2.2 hc
            refine zr_iconst (pc' := 920) dL_law_919 rfl ?_
            exact zr_ireturn dL_law_920 rfl rfl (Or.inl rfl) kc ks (And.intro rfl h)
        · refine zr_tableIn (off := 881) (tgt := 921) dL_law_40 h.1 (by omega) (by omega) (by rw [hsx]; rfl) rfl ?_
          have h := h.2.2.2.2.2.2.2.2.2.2.2.2.2.2.2.2.2.2.1 hsx
          refine zr_aload_n (pc' := 922) (i := 1) dL_law_921 rfl rfl rfl ?_
          refine zr_aload_n (pc' := 923) (i := 0) dL_law_922 rfl rfl rfl ?_
          refine zr_iload (pc' := 925) dL_law_923 rfl rfl ?_
          refine zr_iconst (pc' := 926) dL_law_925 rfl ?_
          refine zr_iadd (pc' := 927) dL_law_926 rfl ?_
          refine zr_sld (pc' := 928) dL_law_927 rfl hL h.1.1 h.1.2 ?_
          have h := h.2
          refine zr_aload_n (pc' := 929) (i := 0) dL_law_928 rfl rfl rfl ?_
          refine zr_iload (pc' := 931) dL_law_929 rfl rfl ?_
          refine zr_iconst (pc' := 932) dL_law_931 rfl ?_
          refine zr_iadd (pc' := 933) dL_law_932 rfl ?_
          refine zr_sld (pc' := 934) dL_law_933 rfl hL h.1.1 h.1.2 ?_
          have h := h.2
          refine zr_aload_n (pc' := 935) (i := 0) dL_law_934 rfl rfl rfl ?_
          refine zr_iload (pc' := 937) dL_law_935 rfl rfl ?_
          refine zr_iconst (pc' := 938) dL_law_937 rfl ?_
          refine zr_iadd (pc' := 939) dL_law_938 rfl ?_
          refine zr_sld (pc' := 940) dL_law_939 rfl hL h.1.1 h.1.2 ?_
          have h := h.2
          refine zr_aload_n (pc' := 941) (i := 0) dL_law_940 rfl rfl rfl ?_
          refine zr_iload (pc' := 943) dL_law_941 rfl rfl ?_
          refine zr_iconst (pc' := 944) dL_law_943 rfl ?_
          refine zr_iadd (pc' := 945) dL_law_944 rfl ?_
          refine zr_sld (pc' := 946) dL_law_945 rfl hL h.1.1 h.1.2 ?_
          have h := h.2
          refine zl_callV (pc' := 949) (args := [.inl ((E.2.2.2.2.2.2 ((l4 + 1).toNat)).toInt), .inl ((E.2.2.2.2.2.2 ((l4 + 2).toNat)).toInt), .inl ((E.2.2.2.2.2.2 ((l4 + 3).toNat)).toInt), .inl ((E.2.2.2.2.2.2 ((l4 + 4).toNat)).toInt)]) (st := []) (st' := fun r109 => [.inl r109]) dL_law_946 rfl cv_L_94 ⟨rfl, rfl, by decide, by decide⟩ rfl ps_0 kd_0 rfl rfl (Nat.le_of_ble_eq_true rfl) (fun _ => rfl) kc ks h ?_
          intro r109 M110 h
          refine zr_aload_n (pc' := 950) (i := 2) dL_law_949 rfl rfl rfl ?_
          refine zr_aload_n (pc' := 951) (i := 0) dL_law_950 rfl rfl rfl ?_
          refine zr_iload (pc' := 953) dL_law_951 rfl rfl ?_
          refine zr_iconst (pc' := 954) dL_law_953 rfl ?_
          refine zr_iadd (pc' := 955) dL_law_954 rfl ?_
          refine zr_sld (pc' := 956) dL_law_955 rfl hL h.1.1 h.1.2 ?_
          have h := h.2
          refine zr_aload_n (pc' := 957) (i := 0) dL_law_956 rfl rfl rfl ?_
          refine zr_iload (pc' := 959) dL_law_957 rfl rfl ?_
          refine zr_iconst (pc' := 960) dL_law_959 rfl ?_
          refine zr_iadd (pc' := 961) dL_law_960 rfl ?_
          refine zr_sld (pc' := 962) dL_law_961 rfl hL h.1.1 h.1.2 ?_
          have h := h.2
          refine zr_aload_n (pc' := 963) (i := 0) dL_law_962 rfl rfl rfl ?_
          refine zr_iload (pc' := 965) dL_law_963 rfl rfl ?_
          refine zr_iconst (pc' := 966) dL_law_965 rfl ?_
          refine zr_iadd (pc' := 967) dL_law_966 rfl ?_
          refine zr_sld (pc' := 968) dL_law_967 rfl hL h.1.1 h.1.2 ?_
          have h := h.2
          refine zr_aload_n (pc' := 969) (i := 0) dL_law_968 rfl rfl rfl ?_
          refine zr_iload (pc' := 971) dL_law_969 rfl rfl ?_
          refine zr_iconst (pc' := 972) dL_law_971 rfl ?_
          refine zr_iadd (pc' := 973) dL_law_972 rfl ?_
          refine zr_sld (pc' := 974) dL_law_973 rfl hL h.1.1 h.1.2 ?_
          have h := h.2
          refine zl_callV (pc' := 977) (args := [.inl ((E.2.2.2.2.2.2 ((l4 + 1).toNat)).toInt), .inl ((E.2.2.2.2.2.2 ((l4 + 2).toNat)).toInt), .inl ((E.2.2.2.2.2.2 ((l4 + 3).toNat)).toInt), .inl ((E.2.2.2.2.2.2 ((l4 + 4).toNat)).toInt)]) (st := [.inl r109]) (st' := fun r111 => [.inl r111, .inl r109]) dL_law_974 rfl cv_L_97 ⟨rfl, rfl, by decide, by decide⟩ rfl ps_102 kd_102 rfl rfl (Nat.le_of_ble_eq_true rfl) (fun _ => rfl) kc ks h ?_
          intro r111 M112 h
          refine zr_icmp_eq (tgt := 1471) (pc' := 980) dL_law_977 rfl rfl h.1.1 h.1.2 (fun hc => ?_) (fun hc => ?_)
          · have h := h.2.1 hc
            refine zr_iinc (pc' := 1474) (al' := [(4, .inl (l4 + 7)), (3, .inr (.inr 165)), (2, .inr (.inr 102)), (1, .inr (.inr 0)), (0, .inr (.inr (-100)))]) dL_law_1471 rfl rfl (by decide) rfl ?_
            refine zr_goto (pc' := 23) dL_law_1474 rfl ?_
            obtain ⟨n', hn, h⟩ := h
            exact zl_al (ih n' hn _ _ _ _ h) ⟨rfl, rfl, rfl, rfl, rfl, trivial⟩
          · have h := h.2.2 hc
            refine zr_iconst (pc' := 981) dL_law_980 rfl ?_
            exact zr_ireturn dL_law_981 rfl rfl (Or.inl rfl) kc ks (And.intro rfl h)
        · refine zr_tableIn (off := 942) (tgt := 982) dL_law_40 h.1 (by omega) (by omega) (by rw [hsx]; rfl) rfl ?_
          have h := h.2.2.2.2.2.2.2.2.2.2.2.2.2.2.2.2.2.2.2.1 hsx
          refine zr_aload_n (pc' := 983) (i := 1) dL_law_982 rfl rfl rfl ?_
          refine zr_aload_n (pc' := 984) (i := 0) dL_law_983 rfl rfl rfl ?_
          refine zr_iload (pc' := 986) dL_law_984 rfl rfl ?_
          refine zr_iconst (pc' := 987) dL_law_986 rfl ?_
          refine zr_iadd (pc' := 988) dL_law_987 rfl ?_
          refine zr_sld (pc' := 989) dL_law_988 rfl hL h.1.1 h.1.2 ?_
          have h := h.2
          refine zl_callV (pc' := 992) (args := [.inl ((E.2.2.2.2.2.2 ((l4 + 1).toNat)).toInt)]) (st := []) (st' := fun r113 => [.inl r113]) dL_law_989 rfl cv_L_98 ⟨rfl, rfl, by decide, by decide⟩ rfl ps_0 kd_0 rfl rfl (Nat.le_of_ble_eq_true rfl) (fun _ => rfl) kc ks h ?_
          intro r113 M114 h
          refine zr_aload_n (pc' := 993) (i := 2) dL_law_992 rfl rfl rfl ?_
          refine zr_aload_n (pc' := 994) (i := 0) dL_law_993 rfl rfl rfl ?_
          refine zr_iload (pc' := 996) dL_law_994 rfl rfl ?_
          refine zr_iconst (pc' := 997) dL_law_996 rfl ?_
          refine zr_iadd (pc' := 998) dL_law_997 rfl ?_
          refine zr_sld (pc' := 999) dL_law_998 rfl hL h.1.1 h.1.2 ?_
          have h := h.2
          refine zl_callV (pc' := 1002) (args := [.inl ((E.2.2.2.2.2.2 ((l4 + 1).toNat)).toInt)]) (st := [.inl r113]) (st' := fun r115 => [.inl r115, .inl r113]) dL_law_999 rfl cv_L_101 ⟨rfl, rfl, by decide, by decide⟩ rfl ps_102 kd_102 rfl rfl (Nat.le_of_ble_eq_true rfl) (fun _ => rfl) kc ks h ?_
          intro r115 M116 h
          refine zr_icmp_eq (tgt := 1471) (pc' := 1005) dL_law_1002 rfl rfl h.1.1 h.1.2 (fun hc => ?_) (fun hc => ?_)
          · have h := h.2.1 hc
            refine zr_iinc (pc' := 1474) (al' := [(4, .inl (l4 + 7)), (3, .inr (.inr 165)), (2, .inr (.inr 102)), (1, .inr (.inr 0)), (0, .inr (.inr (-100)))]) dL_law_1471 rfl rfl (by decide) rfl ?_
            refine zr_goto (pc' := 23) dL_law_1474 rfl ?_
            obtain ⟨n', hn, h⟩ := h
            exact zl_al (ih n' hn _ _ _ _ h) ⟨rfl, rfl, rfl, rfl, rfl, trivial⟩
          · have h := h.2.2 hc
            refine zr_iconst (pc' := 1006) dL_law_1005 rfl ?_
            exact zr_ireturn dL_law_1006 rfl rfl (Or.inl rfl) kc ks (And.intro rfl h)
        · refine zr_tableIn (off := 967) (tgt := 1007) dL_law_40 h.1 (by omega) (by omega) (by rw [hsx]; rfl) rfl ?_
          have h := h.2.2.2.2.2.2.2.2.2.2.2.2.2.2.2.2.2.2.2.2.1 hsx
          refine zr_aload_n (pc' := 1008) (i := 1) dL_law_1007 rfl rfl rfl ?_
          refine zr_aload_n (pc' := 1009) (i := 0) dL_law_1008 rfl rfl rfl ?_
          refine zr_iload (pc' := 1011) dL_law_1009 rfl rfl ?_
          refine zr_iconst (pc' := 1012) dL_law_1011 rfl ?_
          refine zr_iadd (pc' := 1013) dL_law_1012 rfl ?_
          refine zr_sld (pc' := 1014) dL_law_1013 rfl hL h.1.1 h.1.2 ?_
          have h := h.2
          refine zr_aload_n (pc' := 1015) (i := 0) dL_law_1014 rfl rfl rfl ?_
          refine zr_iload (pc' := 1017) dL_law_1015 rfl rfl ?_
          refine zr_iconst (pc' := 1018) dL_law_1017 rfl ?_
          refine zr_iadd (pc' := 1019) dL_law_1018 rfl ?_
          refine zr_sld (pc' := 1020) dL_law_1019 rfl hL h.1.1 h.1.2 ?_
          have h := h.2
          refine zr_aload_n (pc' := 1021) (i := 0) dL_law_1020 rfl rfl rfl ?_
          refine zr_iload (pc' := 1023) dL_law_1021 rfl rfl ?_
          refine zr_iconst (pc' := 1024) dL_law_1023 rfl ?_
          refine zr_iadd (pc' := 1025) dL_law_1024 rfl ?_
          refine zr_sld (pc' := 1026) dL_law_1025 rfl hL h.1.1 h.1.2 ?_
          have h := h.2
          refine zr_aload_n (pc' := 1027) (i := 0) dL_law_1026 rfl rfl rfl ?_
          refine zr_iload (pc' := 1029) dL_law_1027 rfl rfl ?_
          refine zr_iconst (pc' := 1030) dL_law_1029 rfl ?_
          refine zr_iadd (pc' := 1031) dL_law_1030 rfl ?_
          refine zr_sld (pc' := 1032) dL_law_1031 rfl hL h.1.1 h.1.2 ?_
          have h := h.2
          refine zr_aload_n (pc' := 1033) (i := 0) dL_law_1032 rfl rfl rfl ?_
          refine zr_iload (pc' := 1035) dL_law_1033 rfl rfl ?_
          refine zr_iconst (pc' := 1036) dL_law_1035 rfl ?_
          refine zr_iadd (pc' := 1037) dL_law_1036 rfl ?_
          refine zr_sld (pc' := 1038) dL_law_1037 rfl hL h.1.1 h.1.2 ?_
          have h := h.2
          refine zr_aload_n (pc' := 1039) (i := 0) dL_law_1038 rfl rfl rfl ?_
          refine zr_iload (pc' := 1041) dL_law_1039 rfl rfl ?_
          refine zr_bipush (pc' := 1043) dL_law_1041 rfl rfl ?_
          refine zr_iadd (pc' := 1044) dL_law_1043 rfl ?_
          refine zr_sld (pc' := 1045) dL_law_1044 rfl hL h.1.1 h.1.2 ?_
          have h := h.2
          refine zl_callV (pc' := 1048) (args := [.inl ((E.2.2.2.2.2.2 ((l4 + 1).toNat)).toInt), .inl ((E.2.2.2.2.2.2 ((l4 + 2).toNat)).toInt), .inl ((E.2.2.2.2.2.2 ((l4 + 3).toNat)).toInt), .inl ((E.2.2.2.2.2.2 ((l4 + 4).toNat)).toInt), .inl ((E.2.2.2.2.2.2 ((l4 + 5).toNat)).toInt), .inl ((E.2.2.2.2.2.2 ((l4 + 6).toNat)).toInt)]) (st := []) (st' := fun r117 => [.inl r117]) dL_law_1045 rfl cv_L_102 ⟨rfl, rfl, by decide, by decide⟩ rfl ps_0 kd_0 rfl rfl (Nat.le_of_ble_eq_true rfl) (fun _ => rfl) kc ks h ?_
          intro r117 M118 h
          refine zr_aload_n (pc' := 1049) (i := 2) dL_law_1048 rfl rfl rfl ?_
          refine zr_aload_n (pc' := 1050) (i := 0) dL_law_1049 rfl rfl rfl ?_
          refine zr_iload (pc' := 1052) dL_law_1050 rfl rfl ?_
          refine zr_iconst (pc' := 1053) dL_law_1052 rfl ?_
          refine zr_iadd (pc' := 1054) dL_law_1053 rfl ?_
          refine zr_sld (pc' := 1055) dL_law_1054 rfl hL h.1.1 h.1.2 ?_
          have h := h.2
          refine zr_aload_n (pc' := 1056) (i := 0) dL_law_1055 rfl rfl rfl ?_
          refine zr_iload (pc' := 1058) dL_law_1056 rfl rfl ?_
          refine zr_iconst (pc' := 1059) dL_law_1058 rfl ?_
          refine zr_iadd (pc' := 1060) dL_law_1059 rfl ?_
          refine zr_sld (pc' := 1061) dL_law_1060 rfl hL h.1.1 h.1.2 ?_
          have h := h.2
          refine zr_aload_n (pc' := 1062) (i := 0) dL_law_1061 rfl rfl rfl ?_
          refine zr_iload (pc' := 1064) dL_law_1062 rfl rfl ?_
          refine zr_iconst (pc' := 1065) dL_law_1064 rfl ?_
          refine zr_iadd (pc' := 1066) dL_law_1065 rfl ?_
          refine zr_sld (pc' := 1067) dL_law_1066 rfl hL h.1.1 h.1.2 ?_
          have h := h.2
          refine zr_aload_n (pc' := 1068) (i := 0) dL_law_1067 rfl rfl rfl ?_
          refine zr_iload (pc' := 1070) dL_law_1068 rfl rfl ?_
          refine zr_iconst (pc' := 1071) dL_law_1070 rfl ?_
          refine zr_iadd (pc' := 1072) dL_law_1071 rfl ?_
          refine zr_sld (pc' := 1073) dL_law_1072 rfl hL h.1.1 h.1.2 ?_
          have h := h.2
          refine zr_aload_n (pc' := 1074) (i := 0) dL_law_1073 rfl rfl rfl ?_
          refine zr_iload (pc' := 1076) dL_law_1074 rfl rfl ?_
          refine zr_iconst (pc' := 1077) dL_law_1076 rfl ?_
          refine zr_iadd (pc' := 1078) dL_law_1077 rfl ?_
          refine zr_sld (pc' := 1079) dL_law_1078 rfl hL h.1.1 h.1.2 ?_
          have h := h.2
          refine zr_aload_n (pc' := 1080) (i := 0) dL_law_1079 rfl rfl rfl ?_
          refine zr_iload (pc' := 1082) dL_law_1080 rfl rfl ?_
          refine zr_bipush (pc' := 1084) dL_law_1082 rfl rfl ?_
          refine zr_iadd (pc' := 1085) dL_law_1084 rfl ?_
          refine zr_sld (pc' := 1086) dL_law_1085 rfl hL h.1.1 h.1.2 ?_
          have h := h.2
          refine zl_callV (pc' := 1089) (args := [.inl ((E.2.2.2.2.2.2 ((l4 + 1).toNat)).toInt), .inl ((E.2.2.2.2.2.2 ((l4 + 2).toNat)).toInt), .inl ((E.2.2.2.2.2.2 ((l4 + 3).toNat)).toInt), .inl ((E.2.2.2.2.2.2 ((l4 + 4).toNat)).toInt), .inl ((E.2.2.2.2.2.2 ((l4 + 5).toNat)).toInt), .inl ((E.2.2.2.2.2.2 ((l4 + 6).toNat)).toInt)]) (st := [.inl r117]) (st' := fun r119 => [.inl r119, .inl r117]) dL_law_1086 rfl cv_L_106 ⟨rfl, rfl, by decide, by decide⟩ rfl ps_102 kd_102 rfl rfl (Nat.le_of_ble_eq_true rfl) (fun _ => rfl) kc ks h ?_
          intro r119 M120 h
          refine zr_icmp_eq (tgt := 1471) (pc' := 1092) dL_law_1089 rfl rfl h.1.1 h.1.2 (fun hc => ?_) (fun hc => ?_)
          · have h := h.2.1 hc
            refine zr_iinc (pc' := 1474) (al' := [(4, .inl (l4 + 7)), (3, .inr (.inr 165)), (2, .inr (.inr 102)), (1, .inr (.inr 0)), (0, .inr (.inr (-100)))]) dL_law_1471 rfl rfl (by decide) rfl ?_
            refine zr_goto (pc' := 23) dL_law_1474 rfl ?_
            obtain ⟨n', hn, h⟩ := h
            exact zl_al (ih n' hn _ _ _ _ h) ⟨rfl, rfl, rfl, rfl, rfl, trivial⟩
          · have h := h.2.2 hc
            refine zr_iconst (pc' := 1093) dL_law_1092 rfl ?_
            exact zr_ireturn dL_law_1093 rfl rfl (Or.inl rfl) kc ks (And.intro rfl h)
        · refine zr_tableIn (off := 1054) (tgt := 1094) dL_law_40 h.1 (by omega) (by omega) (by rw [hsx]; rfl) rfl ?_
          have h := h.2.2.2.2.2.2.2.2.2.2.2.2.2.2.2.2.2.2.2.2.2.1 hsx
          refine zr_aload_n (pc' := 1095) (i := 1) dL_law_1094 rfl rfl rfl ?_
          refine zr_aload_n (pc' := 1096) (i := 0) dL_law_1095 rfl rfl rfl ?_
          refine zr_iload (pc' := 1098) dL_law_1096 rfl rfl ?_
          refine zr_iconst (pc' := 1099) dL_law_1098 rfl ?_
          refine zr_iadd (pc' := 1100) dL_law_1099 rfl ?_
          refine zr_sld (pc' := 1101) dL_law_1100 rfl hL h.1.1 h.1.2 ?_
          have h := h.2
          refine zl_callV (pc' := 1104) (args := [.inl ((E.2.2.2.2.2.2 ((l4 + 1).toNat)).toInt)]) (st := []) (st' := fun r121 => [.inl r121]) dL_law_1101 rfl cv_L_107 ⟨rfl, rfl, by decide, by decide⟩ rfl ps_0 kd_0 rfl rfl (Nat.le_of_ble_eq_true rfl) (fun _ => rfl) kc ks h ?_
          intro r121 M122 h
          refine zr_aload_n (pc' := 1105) (i := 2) dL_law_1104 rfl rfl rfl ?_
          refine zr_aload_n (pc' := 1106) (i := 0) dL_law_1105 rfl rfl rfl ?_
          refine zr_iload (pc' := 1108) dL_law_1106 rfl rfl ?_
          refine zr_iconst (pc' := 1109) dL_law_1108 rfl ?_
          refine zr_iadd (pc' := 1110) dL_law_1109 rfl ?_
          refine zr_sld (pc' := 1111) dL_law_1110 rfl hL h.1.1 h.1.2 ?_
          have h := h.2
          refine zl_callV (pc' := 1114) (args := [.inl ((E.2.2.2.2.2.2 ((l4 + 1).toNat)).toInt)]) (st := [.inl r121]) (st' := fun r123 => [.inl r123, .inl r121]) dL_law_1111 rfl cv_L_110 ⟨rfl, rfl, by decide, by decide⟩ rfl ps_102 kd_102 rfl rfl (Nat.le_of_ble_eq_true rfl) (fun _ => rfl) kc ks h ?_
          intro r123 M124 h
          refine zr_icmp_eq (tgt := 1471) (pc' := 1117) dL_law_1114 rfl rfl h.1.1 h.1.2 (fun hc => ?_) (fun hc => ?_)
          · have h := h.2.1 hc
            refine zr_iinc (pc' := 1474) (al' := [(4, .inl (l4 + 7)), (3, .inr (.inr 165)), (2, .inr (.inr 102)), (1, .inr (.inr 0)), (0, .inr (.inr (-100)))]) dL_law_1471 rfl rfl (by decide) rfl ?_
            refine zr_goto (pc' := 23) dL_law_1474 rfl ?_
            obtain ⟨n', hn, h⟩ := h
            exact zl_al (ih n' hn _ _ _ _ h) ⟨rfl, rfl, rfl, rfl, rfl, trivial⟩
          · have h := h.2.2 hc
            refine zr_iconst (pc' := 1118) dL_law_1117 rfl ?_
            exact zr_ireturn dL_law_1118 rfl rfl (Or.inl rfl) kc ks (And.intro rfl h)
        · refine zr_tableIn (off := 1079) (tgt := 1119) dL_law_40 h.1 (by omega) (by omega) (by rw [hsx]; rfl) rfl ?_
          have h := h.2.2.2.2.2.2.2.2.2.2.2.2.2.2.2.2.2.2.2.2.2.2.1 hsx
          refine zr_aload_n (pc' := 1120) (i := 1) dL_law_1119 rfl rfl rfl ?_
          refine zr_aload_n (pc' := 1121) (i := 0) dL_law_1120 rfl rfl rfl ?_
          refine zr_iload (pc' := 1123) dL_law_1121 rfl rfl ?_
          refine zr_iconst (pc' := 1124) dL_law_1123 rfl ?_
          refine zr_iadd (pc' := 1125) dL_law_1124 rfl ?_
          refine zr_sld (pc' := 1126) dL_law_1125 rfl hL h.1.1 h.1.2 ?_
          have h := h.2
          refine zr_aload_n (pc' := 1127) (i := 0) dL_law_1126 rfl rfl rfl ?_
          refine zr_iload (pc' := 1129) dL_law_1127 rfl rfl ?_
          refine zr_iconst (pc' := 1130) dL_law_1129 rfl ?_
          refine zr_iadd (pc' := 1131) dL_law_1130 rfl ?_
          refine zr_sld (pc' := 1132) dL_law_1131 rfl hL h.1.1 h.1.2 ?_
          have h := h.2
          refine zl_callV (pc' := 1135) (args := [.inl ((E.2.2.2.2.2.2 ((l4 + 1).toNat)).toInt), .inl ((E.2.2.2.2.2.2 ((l4 + 2).toNat)).toInt)]) (st := []) (st' := fun r125 => [.inl r125]) dL_law_1132 rfl cv_L_111 ⟨rfl, rfl, by decide, by decide⟩ rfl ps_0 kd_0 rfl rfl (Nat.le_of_ble_eq_true rfl) (fun _ => rfl) kc ks h ?_
          intro r125 M126 h
          refine zr_aload_n (pc' := 1136) (i := 2) dL_law_1135 rfl rfl rfl ?_
          refine zr_aload_n (pc' := 1137) (i := 0) dL_law_1136 rfl rfl rfl ?_
          refine zr_iload (pc' := 1139) dL_law_1137 rfl rfl ?_
          refine zr_iconst (pc' := 1140) dL_law_1139 rfl ?_
          refine zr_iadd (pc' := 1141) dL_law_1140 rfl ?_
          refine zr_sld (pc' := 1142) dL_law_1141 rfl hL h.1.1 h.1.2 ?_
          have h := h.2
          refine zr_aload_n (pc' := 1143) (i := 0) dL_law_1142 rfl rfl rfl ?_
          refine zr_iload (pc' := 1145) dL_law_1143 rfl rfl ?_
          refine zr_iconst (pc' := 1146) dL_law_1145 rfl ?_
          refine zr_iadd (pc' := 1147) dL_law_1146 rfl ?_
          refine zr_sld (pc' := 1148) dL_law_1147 rfl hL h.1.1 h.1.2 ?_
          have h := h.2
          refine zl_callV (pc' := 1151) (args := [.inl ((E.2.2.2.2.2.2 ((l4 + 1).toNat)).toInt), .inl ((E.2.2.2.2.2.2 ((l4 + 2).toNat)).toInt)]) (st := [.inl r125]) (st' := fun r127 => [.inl r127, .inl r125]) dL_law_1148 rfl cv_L_114 ⟨rfl, rfl, by decide, by decide⟩ rfl ps_102 kd_102 rfl rfl (Nat.le_of_ble_eq_true rfl) (fun _ => rfl) kc ks h ?_
          intro r127 M128 h
          refine zr_icmp_eq (tgt := 1471) (pc' := 1154) dL_law_1151 rfl rfl h.1.1 h.1.2 (fun hc => ?_) (fun hc => ?_)
          · have h := h.2.1 hc
            refine zr_iinc (pc' := 1474) (al' := [(4, .inl (l4 + 7)), (3, .inr (.inr 165)), (2, .inr (.inr 102)), (1, .inr (.inr 0)), (0, .inr (.inr (-100)))]) dL_law_1471 rfl rfl (by decide) rfl ?_
            refine zr_goto (pc' := 23) dL_law_1474 rfl ?_
            obtain ⟨n', hn, h⟩ := h
            exact zl_al (ih n' hn _ _ _ _ h) ⟨rfl, rfl, rfl, rfl, rfl, trivial⟩
          · have h := h.2.2 hc
            refine zr_iconst (pc' := 1155) dL_law_1154 rfl ?_
            exact zr_ireturn dL_law_1155 rfl rfl (Or.inl rfl) kc ks (And.intro rfl h)
        · refine zr_tableIn (off := 1116) (tgt := 1156) dL_law_40 h.1 (by omega) (by omega) (by rw [hsx]; rfl) rfl ?_
          have h := h.2.2.2.2.2.2.2.2.2.2.2.2.2.2.2.2.2.2.2.2.2.2.2.1 hsx
          refine zr_aload_n (pc' := 1157) (i := 1) dL_law_1156 rfl rfl rfl ?_
          refine zr_aload_n (pc' := 1158) (i := 0) dL_law_1157 rfl rfl rfl ?_
          refine zr_iload (pc' := 1160) dL_law_1158 rfl rfl ?_
          refine zr_iconst (pc' := 1161) dL_law_1160 rfl ?_
          refine zr_iadd (pc' := 1162) dL_law_1161 rfl ?_
          refine zr_sld (pc' := 1163) dL_law_1162 rfl hL h.1.1 h.1.2 ?_
          have h := h.2
          refine zr_aload_n (pc' := 1164) (i := 0) dL_law_1163 rfl rfl rfl ?_
          refine zr_iload (pc' := 1166) dL_law_1164 rfl rfl ?_
          refine zr_iconst (pc' := 1167) dL_law_1166 rfl ?_
          refine zr_iadd (pc' := 1168) dL_law_1167 rfl ?_
          refine zr_sld (pc' := 1169) dL_law_1168 rfl hL h.1.1 h.1.2 ?_
          have h := h.2
          refine zr_aload_n (pc' := 1170) (i := 0) dL_law_1169 rfl rfl rfl ?_
          refine zr_iload (pc' := 1172) dL_law_1170 rfl rfl ?_
          refine zr_iconst (pc' := 1173) dL_law_1172 rfl ?_
          refine zr_iadd (pc' := 1174) dL_law_1173 rfl ?_
          refine zr_sld (pc' := 1175) dL_law_1174 rfl hL h.1.1 h.1.2 ?_
          have h := h.2
          refine zl_callV (pc' := 1178) (args := [.inl ((E.2.2.2.2.2.2 ((l4 + 1).toNat)).toInt), .inl ((E.2.2.2.2.2.2 ((l4 + 2).toNat)).toInt), .inl ((E.2.2.2.2.2.2 ((l4 + 3).toNat)).toInt)]) (st := []) (st' := fun r129 => [.inl r129]) dL_law_1175 rfl cv_L_115 ⟨rfl, rfl, by decide, by decide⟩ rfl ps_0 kd_0 rfl rfl (Nat.le_of_ble_eq_true rfl) (fun _ => rfl) kc ks h ?_
          intro r129 M130 h
          refine zr_aload_n (pc' := 1179) (i := 2) dL_law_1178 rfl rfl rfl ?_
          refine zr_aload_n (pc' := 1180) (i := 0) dL_law_1179 rfl rfl rfl ?_
          refine zr_iload (pc' := 1182) dL_law_1180 rfl rfl ?_
          refine zr_iconst (pc' := 1183) dL_law_1182 rfl ?_
          refine zr_iadd (pc' := 1184) dL_law_1183 rfl ?_
          refine zr_sld (pc' := 1185) dL_law_1184 rfl hL h.1.1 h.1.2 ?_
          have h := h.2
          refine zr_aload_n (pc' := 1186) (i := 0) dL_law_1185 rfl rfl rfl ?_
          refine zr_iload (pc' := 1188) dL_law_1186 rfl rfl ?_
          refine zr_iconst (pc' := 1189) dL_law_1188 rfl ?_
          refine zr_iadd (pc' := 1190) dL_law_1189 rfl ?_
          refine zr_sld (pc' := 1191) dL_law_1190 rfl hL h.1.1 h.1.2 ?_
          have h := h.2
          refine zr_aload_n (pc' := 1192) (i := 0) dL_law_1191 rfl rfl rfl ?_
          refine zr_iload (pc' := 1194) dL_law_1192 rfl rfl ?_
          refine zr_iconst (pc' := 1195) dL_law_1194 rfl ?_
          refine zr_iadd (pc' := 1196) dL_law_1195 rfl ?_
          refine zr_sld (pc' := 1197) dL_law_1196 rfl hL h.1.1 h.1.2 ?_
          have h := h.2
          refine zl_callV (pc' := 1200) (args := [.inl ((E.2.2.2.2.2.2 ((l4 + 1).toNat)).toInt), .inl ((E.2.2.2.2.2.2 ((l4 + 2).toNat)).toInt), .inl ((E.2.2.2.2.2.2 ((l4 + 3).toNat)).toInt)]) (st := [.inl r129]) (st' := fun r131 => [.inl r131, .inl r129]) dL_law_1197 rfl cv_L_118 ⟨rfl, rfl, by decide, by decide⟩ rfl ps_102 kd_102 rfl rfl (Nat.le_of_ble_eq_true rfl) (fun _ => rfl) kc ks h ?_
          intro r131 M132 h
          refine zr_icmp_eq (tgt := 1471) (pc' := 1203) dL_law_1200 rfl rfl h.1.1 h.1.2 (fun hc => ?_) (fun hc => ?_)
          · have h := h.2.1 hc
            refine zr_iinc (pc' := 1474) (al' := [(4, .inl (l4 + 7)), (3, .inr (.inr 165)), (2, .inr (.inr 102)), (1, .inr (.inr 0)), (0, .inr (.inr (-100)))]) dL_law_1471 rfl rfl (by decide) rfl ?_
            refine zr_goto (pc' := 23) dL_law_1474 rfl ?_
            obtain ⟨n', hn, h⟩ := h
            exact zl_al (ih n' hn _ _ _ _ h) ⟨rfl, rfl, rfl, rfl, rfl, trivial⟩
          · have h := h.2.2 hc
            refine zr_iconst (pc' := 1204) dL_law_1203 rfl ?_
            exact zr_ireturn dL_law_1204 rfl rfl (Or.inl rfl) kc ks (And.intro rfl h)
        · refine zr_tableIn (off := 1165) (tgt := 1205) dL_law_40 h.1 (by omega) (by omega) (by rw [hsx]; rfl) rfl ?_
          have h := h.2.2.2.2.2.2.2.2.2.2.2.2.2.2.2.2.2.2.2.2.2.2.2.2.1 hsx
          refine zr_aload_n (pc' := 1206) (i := 1) dL_law_1205 rfl rfl rfl ?_
          refine zr_aload_n (pc' := 1207) (i := 0) dL_law_1206 rfl rfl rfl ?_
          refine zr_iload (pc' := 1209) dL_law_1207 rfl rfl ?_
          refine zr_iconst (pc' := 1210) dL_law_1209 rfl ?_
          refine zr_iadd (pc' := 1211) dL_law_1210 rfl ?_
          refine zr_sld (pc' := 1212) dL_law_1211 rfl hL h.1.1 h.1.2 ?_
          have h := h.2
          refine zl_callV (pc' := 1215) (args := [.inl ((E.2.2.2.2.2.2 ((l4 + 1).toNat)).toInt)]) (st := []) (st' := fun r133 => [.inl r133]) dL_law_1212 rfl cv_L_119 ⟨rfl, rfl, by decide, by decide⟩ rfl ps_0 kd_0 rfl rfl (Nat.le_of_ble_eq_true rfl) (fun _ => rfl) kc ks h ?_
          intro r133 M134 h
          refine zr_aload_n (pc' := 1216) (i := 2) dL_law_1215 rfl rfl rfl ?_
          refine zr_aload_n (pc' := 1217) (i := 0) dL_law_1216 rfl rfl rfl ?_
          refine zr_iload (pc' := 1219) dL_law_1217 rfl rfl ?_
          refine zr_iconst (pc' := 1220) dL_law_1219 rfl ?_
          refine zr_iadd (pc' := 1221) dL_law_1220 rfl ?_
          refine zr_sld (pc' := 1222) dL_law_1221 rfl hL h.1.1 h.1.2 ?_
          have h := h.2
          refine zl_callV (pc' := 1225) (args := [.inl ((E.2.2.2.2.2.2 ((l4 + 1).toNat)).toInt)]) (st := [.inl r133]) (st' := fun r135 => [.inl r135, .inl r133]) dL_law_1222 rfl cv_L_122 ⟨rfl, rfl, by decide, by decide⟩ rfl ps_102 kd_102 rfl rfl (Nat.le_of_ble_eq_true rfl) (fun _ => rfl) kc ks h ?_
          intro r135 M136 h
          refine zr_icmp_eq (tgt := 1471) (pc' := 1228) dL_law_1225 rfl rfl h.1.1 h.1.2 (fun hc => ?_) (fun hc => ?_)
          · have h := h.2.1 hc
            refine zr_iinc (pc' := 1474) (al' := [(4, .inl (l4 + 7)), (3, .inr (.inr 165)), (2, .inr (.inr 102)), (1, .inr (.inr 0)), (0, .inr (.inr (-100)))]) dL_law_1471 rfl rfl (by decide) rfl ?_
            refine zr_goto (pc' := 23) dL_law_1474 rfl ?_
            obtain ⟨n', hn, h⟩ := h
            exact zl_al (ih n' hn _ _ _ _ h) ⟨rfl, rfl, rfl, rfl, rfl, trivial⟩
          · have h := h.2.2 hc
            refine zr_iconst (pc' := 1229) dL_law_1228 rfl ?_
            exact zr_ireturn dL_law_1229 rfl rfl (Or.inl rfl) kc ks (And.intro rfl h)
        · refine zr_tableIn (off := 1190) (tgt := 1230) dL_law_40 h.1 (by omega) (by omega) (by rw [hsx]; rfl) rfl ?_
          have h := h.2.2.2.2.2.2.2.2.2.2.2.2.2.2.2.2.2.2.2.2.2.2.2.2.2.1 hsx
          refine zr_aload_n (pc' := 1231) (i := 1) dL_law_1230 rfl rfl rfl ?_
          refine zr_aload_n (pc' := 1232) (i := 0) dL_law_1231 rfl rfl rfl ?_
          refine zr_iload (pc' := 1234) dL_law_1232 rfl rfl ?_
          refine zr_iconst (pc' := 1235) dL_law_1234 rfl ?_
          refine zr_iadd (pc' := 1236) dL_law_1235 rfl ?_
          refine zr_sld (pc' := 1237) dL_law_1236 rfl hL h.1.1 h.1.2 ?_
          have h := h.2
          refine zl_callV (pc' := 1240) (args := [.inl ((E.2.2.2.2.2.2 ((l4 + 1).toNat)).toInt)]) (st := []) (st' := fun r137 => [.inl r137]) dL_law_1237 rfl cv_L_123 ⟨rfl, rfl, by decide, by decide⟩ rfl ps_0 kd_0 rfl rfl (Nat.le_of_ble_eq_true rfl) (fun _ => rfl) kc ks h ?_
          intro r137 M138 h
          refine zr_aload_n (pc' := 1241) (i := 2) dL_law_1240 rfl rfl rfl ?_
          refine zr_aload_n (pc' := 1242) (i := 0) dL_law_1241 rfl rfl rfl ?_
          refine zr_iload (pc' := 1244) dL_law_1242 rfl rfl ?_
          refine zr_iconst (pc' := 1245) dL_law_1244 rfl ?_
          refine zr_iadd (pc' := 1246) dL_law_1245 rfl ?_
          refine zr_sld (pc' := 1247) dL_law_1246 rfl hL h.1.1 h.1.2 ?_
          have h := h.2
          refine zl_callV (pc' := 1250) (args := [.inl ((E.2.2.2.2.2.2 ((l4 + 1).toNat)).toInt)]) (st := [.inl r137]) (st' := fun r139 => [.inl r139, .inl r137]) dL_law_1247 rfl cv_L_126 ⟨rfl, rfl, by decide, by decide⟩ rfl ps_102 kd_102 rfl rfl (Nat.le_of_ble_eq_true rfl) (fun _ => rfl) kc ks h ?_
          intro r139 M140 h
          refine zr_icmp_eq (tgt := 1471) (pc' := 1253) dL_law_1250 rfl rfl h.1.1 h.1.2 (fun hc => ?_) (fun hc => ?_)
          · have h := h.2.1 hc
            refine zr_iinc (pc' := 1474) (al' := [(4, .inl (l4 + 7)), (3, .inr (.inr 165)), (2, .inr (.inr 102)), (1, .inr (.inr 0)), (0, .inr (.inr (-100)))]) dL_law_1471 rfl rfl (by decide) rfl ?_
            refine zr_goto (pc' := 23) dL_law_1474 rfl ?_
            obtain ⟨n', hn, h⟩ := h
            exact zl_al (ih n' hn _ _ _ _ h) ⟨rfl, rfl, rfl, rfl, rfl, trivial⟩
          · have h := h.2.2 hc
            refine zr_iconst (pc' := 1254) dL_law_1253 rfl ?_
            exact zr_ireturn dL_law_1254 rfl rfl (Or.inl rfl) kc ks (And.intro rfl h)
        · refine zr_tableIn (off := 1215) (tgt := 1255) dL_law_40 h.1 (by omega) (by omega) (by rw [hsx]; rfl) rfl ?_
          have h := h.2.2.2.2.2.2.2.2.2.2.2.2.2.2.2.2.2.2.2.2.2.2.2.2.2.2.1 hsx
          refine zr_aload_n (pc' := 1256) (i := 1) dL_law_1255 rfl rfl rfl ?_
          refine zr_aload_n (pc' := 1257) (i := 0) dL_law_1256 rfl rfl rfl ?_
          refine zr_iload (pc' := 1259) dL_law_1257 rfl rfl ?_
          refine zr_iconst (pc' := 1260) dL_law_1259 rfl ?_
          refine zr_iadd (pc' := 1261) dL_law_1260 rfl ?_
          refine zr_sld (pc' := 1262) dL_law_1261 rfl hL h.1.1 h.1.2 ?_
          have h := h.2
          refine zr_aload_n (pc' := 1263) (i := 0) dL_law_1262 rfl rfl rfl ?_
          refine zr_iload (pc' := 1265) dL_law_1263 rfl rfl ?_
          refine zr_iconst (pc' := 1266) dL_law_1265 rfl ?_
          refine zr_iadd (pc' := 1267) dL_law_1266 rfl ?_
          refine zr_sld (pc' := 1268) dL_law_1267 rfl hL h.1.1 h.1.2 ?_
          have h := h.2
          refine zl_callV (pc' := 1271) (args := [.inl ((E.2.2.2.2.2.2 ((l4 + 1).toNat)).toInt), .inl ((E.2.2.2.2.2.2 ((l4 + 2).toNat)).toInt)]) (st := []) (st' := fun r141 => [.inl r141]) dL_law_1268 rfl cv_L_127 ⟨rfl, rfl, by decide, by decide⟩ rfl ps_0 kd_0 rfl rfl (Nat.le_of_ble_eq_true rfl) (fun _ => rfl) kc ks h ?_
          intro r141 M142 h
          refine zr_aload_n (pc' := 1272) (i := 2) dL_law_1271 rfl rfl rfl ?_
          refine zr_aload_n (pc' := 1273) (i := 0) dL_law_1272 rfl rfl rfl ?_
          refine zr_iload (pc' := 1275) dL_law_1273 rfl rfl ?_
          refine zr_iconst (pc' := 1276) dL_law_1275 rfl ?_
          refine zr_iadd (pc' := 1277) dL_law_1276 rfl ?_
          refine zr_sld (pc' := 1278) dL_law_1277 rfl hL h.1.1 h.1.2 ?_
          have h := h.2
          refine zr_aload_n (pc' := 1279) (i := 0) dL_law_1278 rfl rfl rfl ?_
          refine zr_iload (pc' := 1281) dL_law_1279 rfl rfl ?_
          refine zr_iconst (pc' := 1282) dL_law_1281 rfl ?_
          refine zr_iadd (pc' := 1283) dL_law_1282 rfl ?_
          refine zr_sld (pc' := 1284) dL_law_1283 rfl hL h.1.1 h.1.2 ?_
          have h := h.2
          refine zl_callV (pc' := 1287) (args := [.inl ((E.2.2.2.2.2.2 ((l4 + 1).toNat)).toInt), .inl ((E.2.2.2.2.2.2 ((l4 + 2).toNat)).toInt)]) (st := [.inl r141]) (st' := fun r143 => [.inl r143, .inl r141]) dL_law_1284 rfl cv_L_130 ⟨rfl, rfl, by decide, by decide⟩ rfl ps_102 kd_102 rfl rfl (Nat.le_of_ble_eq_true rfl) (fun _ => rfl) kc ks h ?_
          intro r143 M144 h
          refine zr_icmp_eq (tgt := 1471) (pc' := 1290) dL_law_1287 rfl rfl h.1.1 h.1.2 (fun hc => ?_) (fun hc => ?_)
          · have h := h.2.1 hc
            refine zr_iinc (pc' := 1474) (al' := [(4, .inl (l4 + 7)), (3, .inr (.inr 165)), (2, .inr (.inr 102)), (1, .inr (.inr 0)), (0, .inr (.inr (-100)))]) dL_law_1471 rfl rfl (by decide) rfl ?_
            refine zr_goto (pc' := 23) dL_law_1474 rfl ?_
            obtain ⟨n', hn, h⟩ := h
            exact zl_al (ih n' hn _ _ _ _ h) ⟨rfl, rfl, rfl, rfl, rfl, trivial⟩
          · have h := h.2.2 hc
            refine zr_iconst (pc' := 1291) dL_law_1290 rfl ?_
            exact zr_ireturn dL_law_1291 rfl rfl (Or.inl rfl) kc ks (And.intro rfl h)
        · refine zr_tableIn (off := 1252) (tgt := 1292) dL_law_40 h.1 (by omega) (by omega) (by rw [hsx]; rfl) rfl ?_
          have h := h.2.2.2.2.2.2.2.2.2.2.2.2.2.2.2.2.2.2.2.2.2.2.2.2.2.2.2.1 hsx
          refine zr_aload_n (pc' := 1293) (i := 1) dL_law_1292 rfl rfl rfl ?_
          refine zr_aload_n (pc' := 1294) (i := 0) dL_law_1293 rfl rfl rfl ?_
          refine zr_iload (pc' := 1296) dL_law_1294 rfl rfl ?_
          refine zr_iconst (pc' := 1297) dL_law_1296 rfl ?_
          refine zr_iadd (pc' := 1298) dL_law_1297 rfl ?_
          refine zr_sld (pc' := 1299) dL_law_1298 rfl hL h.1.1 h.1.2 ?_
          have h := h.2
          refine zr_aload_n (pc' := 1300) (i := 0) dL_law_1299 rfl rfl rfl ?_
          refine zr_iload (pc' := 1302) dL_law_1300 rfl rfl ?_
          refine zr_iconst (pc' := 1303) dL_law_1302 rfl ?_
          refine zr_iadd (pc' := 1304) dL_law_1303 rfl ?_
          refine zr_sld (pc' := 1305) dL_law_1304 rfl hL h.1.1 h.1.2 ?_
          have h := h.2
          refine zr_aload_n (pc' := 1306) (i := 0) dL_law_1305 rfl rfl rfl ?_
          refine zr_iload (pc' := 1308) dL_law_1306 rfl rfl ?_
          refine zr_iconst (pc' := 1309) dL_law_1308 rfl ?_
          refine zr_iadd (pc' := 1310) dL_law_1309 rfl ?_
          refine zr_sld (pc' := 1311) dL_law_1310 rfl hL h.1.1 h.1.2 ?_
          have h := h.2
          refine zl_callV (pc' := 1314) (args := [.inl ((E.2.2.2.2.2.2 ((l4 + 1).toNat)).toInt), .inl ((E.2.2.2.2.2.2 ((l4 + 2).toNat)).toInt), .inl ((E.2.2.2.2.2.2 ((l4 + 3).toNat)).toInt)]) (st := []) (st' := fun r145 => [.inl r145]) dL_law_1311 rfl cv_L_131 ⟨rfl, rfl, by decide, by decide⟩ rfl ps_0 kd_0 rfl rfl (Nat.le_of_ble_eq_true rfl) (fun _ => rfl) kc ks h ?_
          intro r145 M146 h
          refine zr_aload_n (pc' := 1315) (i := 2) dL_law_1314 rfl rfl rfl ?_
          refine zr_aload_n (pc' := 1316) (i := 0) dL_law_1315 rfl rfl rfl ?_
          refine zr_iload (pc' := 1318) dL_law_1316 rfl rfl ?_
          refine zr_iconst (pc' := 1319) dL_law_1318 rfl ?_
          refine zr_iadd (pc' := 1320) dL_law_1319 rfl ?_
          refine zr_sld (pc' := 1321) dL_law_1320 rfl hL h.1.1 h.1.2 ?_
          have h := h.2
          refine zr_aload_n (pc' := 1322) (i := 0) dL_law_1321 rfl rfl rfl ?_
          refine zr_iload (pc' := 1324) dL_law_1322 rfl rfl ?_
          refine zr_iconst (pc' := 1325) dL_law_1324 rfl ?_
          refine zr_iadd (pc' := 1326) dL_law_1325 rfl ?_
          refine zr_sld (pc' := 1327) dL_law_1326 rfl hL h.1.1 h.1.2 ?_
          have h := h.2
          refine zr_aload_n (pc' := 1328) (i := 0) dL_law_1327 rfl rfl rfl ?_
          refine zr_iload (pc' := 1330) dL_law_1328 rfl rfl ?_
          refine zr_iconst (pc' := 1331) dL_law_1330 rfl ?_
          refine zr_iadd (pc' := 1332) dL_law_1331 rfl ?_
          refine zr_sld (pc' := 1333) dL_law_1332 rfl hL h.1.1 h.1.2 ?_
          have h := h.2
          refine zl_callV (pc' := 1336) (args := [.inl ((E.2.2.2.2.2.2 ((l4 + 1).toNat)).toInt), .inl ((E.2.2.2.2.2.2 ((l4 + 2).toNat)).toInt), .inl ((E.2.2.2.2.2.2 ((l4 + 3).toNat)).toInt)]) (st := [.inl r145]) (st' := fun r147 => [.inl r147, .inl r145]) dL_law_1333 rfl cv_L_134 ⟨rfl, rfl, by decide, by decide⟩ rfl ps_102 kd_102 rfl rfl (Nat.le_of_ble_eq_true rfl) (fun _ => rfl) kc ks h ?_
          intro r147 M148 h
          refine zr_icmp_eq (tgt := 1471) (pc' := 1339) dL_law_1336 rfl rfl h.1.1 h.1.2 (fun hc => ?_) (fun hc => ?_)
          · have h := h.2.1 hc
            refine zr_iinc (pc' := 1474) (al' := [(4, .inl (l4 + 7)), (3, .inr (.inr 165)), (2, .inr (.inr 102)), (1, .inr (.inr 0)), (0, .inr (.inr (-100)))]) dL_law_1471 rfl rfl (by decide) rfl ?_
            refine zr_goto (pc' := 23) dL_law_1474 rfl ?_
            obtain ⟨n', hn, h⟩ := h
            exact zl_al (ih n' hn _ _ _ _ h) ⟨rfl, rfl, rfl, rfl, rfl, trivial⟩
          · have h := h.2.2 hc
            refine zr_iconst (pc' := 1340) dL_law_1339 rfl ?_
            exact zr_ireturn dL_law_1340 rfl rfl (Or.inl rfl) kc ks (And.intro rfl h)
        · refine zr_tableIn (off := 1301) (tgt := 1341) dL_law_40 h.1 (by omega) (by omega) (by rw [hsx]; rfl) rfl ?_
          have h := h.2.2.2.2.2.2.2.2.2.2.2.2.2.2.2.2.2.2.2.2.2.2.2.2.2.2.2.2.1 hsx
          refine zr_aload_n (pc' := 1342) (i := 1) dL_law_1341 rfl rfl rfl ?_
          refine zr_aload_n (pc' := 1343) (i := 0) dL_law_1342 rfl rfl rfl ?_
          refine zr_iload (pc' := 1345) dL_law_1343 rfl rfl ?_
          refine zr_iconst (pc' := 1346) dL_law_1345 rfl ?_
          refine zr_iadd (pc' := 1347) dL_law_1346 rfl ?_
          refine zr_sld (pc' := 1348) dL_law_1347 rfl hL h.1.1 h.1.2 ?_
          have h := h.2
          refine zr_aload_n (pc' := 1349) (i := 0) dL_law_1348 rfl rfl rfl ?_
          refine zr_iload (pc' := 1351) dL_law_1349 rfl rfl ?_
          refine zr_iconst (pc' := 1352) dL_law_1351 rfl ?_
          refine zr_iadd (pc' := 1353) dL_law_1352 rfl ?_
          refine zr_sld (pc' := 1354) dL_law_1353 rfl hL h.1.1 h.1.2 ?_
          have h := h.2
          refine zl_callV (pc' := 1357) (args := [.inl ((E.2.2.2.2.2.2 ((l4 + 1).toNat)).toInt), .inl ((E.2.2.2.2.2.2 ((l4 + 2).toNat)).toInt)]) (st := []) (st' := fun r149 => [.inl r149]) dL_law_1354 rfl cv_L_135 ⟨rfl, rfl, by decide, by decide⟩ rfl ps_0 kd_0 rfl rfl (Nat.le_of_ble_eq_true rfl) (fun _ => rfl) kc ks h ?_
          intro r149 M150 h
          refine zr_aload_n (pc' := 1358) (i := 2) dL_law_1357 rfl rfl rfl ?_
          refine zr_aload_n (pc' := 1359) (i := 0) dL_law_1358 rfl rfl rfl ?_
          refine zr_iload (pc' := 1361) dL_law_1359 rfl rfl ?_
          refine zr_iconst (pc' := 1362) dL_law_1361 rfl ?_
          refine zr_iadd (pc' := 1363) dL_law_1362 rfl ?_
          refine zr_sld (pc' := 1364) dL_law_1363 rfl hL h.1.1 h.1.2 ?_
          have h := h.2
          refine zr_aload_n (pc' := 1365) (i := 0) dL_law_1364 rfl rfl rfl ?_
          refine zr_iload (pc' := 1367) dL_law_1365 rfl rfl ?_
          refine zr_iconst (pc' := 1368) dL_law_1367 rfl ?_
          refine zr_iadd (pc' := 1369) dL_law_1368 rfl ?_
          refine zr_sld (pc' := 1370) dL_law_1369 rfl hL h.1.1 h.1.2 ?_
          have h := h.2
          refine zl_callV (pc' := 1373) (args := [.inl ((E.2.2.2.2.2.2 ((l4 + 1).toNat)).toInt), .inl ((E.2.2.2.2.2.2 ((l4 + 2).toNat)).toInt)]) (st := [.inl r149]) (st' := fun r151 => [.inl r151, .inl r149]) dL_law_1370 rfl cv_L_138 ⟨rfl, rfl, by decide, by decide⟩ rfl ps_102 kd_102 rfl rfl (Nat.le_of_ble_eq_true rfl) (fun _ => rfl) kc ks h ?_
          intro r151 M152 h
          refine zr_icmp_eq (tgt := 1471) (pc' := 1376) dL_law_1373 rfl rfl h.1.1 h.1.2 (fun hc => ?_) (fun hc => ?_)
          · have h := h.2.1 hc
            refine zr_iinc (pc' := 1474) (al' := [(4, .inl (l4 + 7)), (3, .inr (.inr 165)), (2, .inr (.inr 102)), (1, .inr (.inr 0)), (0, .inr (.inr (-100)))]) dL_law_1471 rfl rfl (by decide) rfl ?_
            refine zr_goto (pc' := 23) dL_law_1474 rfl ?_
            obtain ⟨n', hn, h⟩ := h
            exact zl_al (ih n' hn _ _ _ _ h) ⟨rfl, rfl, rfl, rfl, rfl, trivial⟩
          · have h := h.2.2 hc
            refine zr_iconst (pc' := 1377) dL_law_1376 rfl ?_
            exact zr_ireturn dL_law_1377 rfl rfl (Or.inl rfl) kc ks (And.intro rfl h)
        · refine zr_tableIn (off := 1338) (tgt := 1378) dL_law_40 h.1 (by omega) (by omega) (by rw [hsx]; rfl) rfl ?_
          have h := h.2.2.2.2.2.2.2.2.2.2.2.2.2.2.2.2.2.2.2.2.2.2.2.2.2.2.2.2.2.1 hsx
          refine zr_aload_n (pc' := 1379) (i := 1) dL_law_1378 rfl rfl rfl ?_
          refine zr_aload_n (pc' := 1380) (i := 0) dL_law_1379 rfl rfl rfl ?_
          refine zr_iload (pc' := 1382) dL_law_1380 rfl rfl ?_
          refine zr_iconst (pc' := 1383) dL_law_1382 rfl ?_
          refine zr_iadd (pc' := 1384) dL_law_1383 rfl ?_
          refine zr_sld (pc' := 1385) dL_law_1384 rfl hL h.1.1 h.1.2 ?_
          have h := h.2
          refine zr_aload_n (pc' := 1386) (i := 0) dL_law_1385 rfl rfl rfl ?_
          refine zr_iload (pc' := 1388) dL_law_1386 rfl rfl ?_
          refine zr_iconst (pc' := 1389) dL_law_1388 rfl ?_
          refine zr_iadd (pc' := 1390) dL_law_1389 rfl ?_
          refine zr_sld (pc' := 1391) dL_law_1390 rfl hL h.1.1 h.1.2 ?_
          have h := h.2
          refine zr_aload_n (pc' := 1392) (i := 3) dL_law_1391 rfl rfl rfl ?_
          refine h c s _ _ _ (Nat.le_of_ble_eq_true rfl) kc2 ks2 (fun r153 M154 h => ?_)
          refine zr_istore (pc' := 1397) (al' := [(5, .inl r153), (4, .inl l4), (3, .inr (.inr 165)), (2, .inr (.inr 102)), (1, .inr (.inr 0)), (0, .inr (.inr (-100)))]) dL_law_1395 rfl (by decide) rfl ?_
          refine zr_aload_n (pc' := 1398) (i := 2) dL_law_1397 rfl rfl rfl ?_
          refine zr_aload_n (pc' := 1399) (i := 0) dL_law_1398 rfl rfl rfl ?_
          refine zr_iload (pc' := 1401) dL_law_1399 rfl rfl ?_
          refine zr_iconst (pc' := 1402) dL_law_1401 rfl ?_
          refine zr_iadd (pc' := 1403) dL_law_1402 rfl ?_
          refine zr_sld (pc' := 1404) dL_law_1403 rfl hL h.1.1 h.1.2 ?_
          have h := h.2
          refine zr_aload_n (pc' := 1405) (i := 0) dL_law_1404 rfl rfl rfl ?_
          refine zr_iload (pc' := 1407) dL_law_1405 rfl rfl ?_
          refine zr_iconst (pc' := 1408) dL_law_1407 rfl ?_
          refine zr_iadd (pc' := 1409) dL_law_1408 rfl ?_
          refine zr_sld (pc' := 1410) dL_law_1409 rfl hL h.1.1 h.1.2 ?_
          have h := h.2
          refine zl_callV (pc' := 1413) (args := [.inl ((E.2.2.2.2.2.2 ((l4 + 1).toNat)).toInt), .inl ((E.2.2.2.2.2.2 ((l4 + 2).toNat)).toInt)]) (st := []) (st' := fun r155 => [.inl r155]) dL_law_1410 rfl cv_L_144 ⟨rfl, rfl, by decide, by decide⟩ rfl ps_102 kd_102 rfl rfl (Nat.le_of_ble_eq_true rfl) (fun _ => rfl) kcb ksb h ?_
          intro r155 M156 h
          refine zr_istore (pc' := 1415) (al' := [(6, .inl r155), (5, .inl r153), (4, .inl l4), (3, .inr (.inr 165)), (2, .inr (.inr 102)), (1, .inr (.inr 0)), (0, .inr (.inr (-100)))]) dL_law_1413 rfl (by decide) rfl ?_
          refine zr_aload_n (pc' := 1416) (i := 2) dL_law_1415 rfl rfl rfl ?_
          refine zl_callV (pc' := 1419) (args := []) (st := []) (st' := fun r157 => [.inl r157]) dL_law_1416 rfl cv_L_145 ⟨rfl, rfl, by decide, by decide⟩ rfl ps_102 kd_102 rfl rfl (Nat.le_of_ble_eq_true rfl) (fun _ => rfl) kcb ksb h ?_
          intro r157 M158 h
          refine zr_iload (pc' := 1421) dL_law_1419 rfl rfl ?_
          refine zr_icmp_eq (tgt := 1426) (pc' := 1424) dL_law_1421 rfl rfl h.1.1 h.1.2 (fun hc => ?_) (fun hc => ?_)
          · have h := h.2.1 hc
            refine zr_iload (pc' := 1428) dL_law_1426 rfl rfl ?_
            refine zr_if_ne (tgt := 1443) (pc' := 1431) dL_law_1428 rfl rfl h.1 (fun hc => ?_) (fun hc => ?_)
            · have h := h.2.1 hc
              refine zr_goto (pc' := 1471) dL_law_1443 rfl ?_
              refine zr_iinc (pc' := 1474) (al' := [(4, .inl (l4 + 7)), (6, .inl r155), (5, .inl r153), (3, .inr (.inr 165)), (2, .inr (.inr 102)), (1, .inr (.inr 0)), (0, .inr (.inr (-100)))]) dL_law_1471 rfl rfl (by decide) rfl ?_
              refine zr_goto (pc' := 23) dL_law_1474 rfl ?_
              obtain ⟨n', hn, h⟩ := h
              exact zl_al (ih n' hn _ _ _ _ h) ⟨rfl, rfl, rfl, rfl, rfl, trivial⟩
            · have h := h.2.2 hc
              refine zr_aload_n (pc' := 1432) (i := 3) dL_law_1431 rfl rfl rfl ?_
              refine zr_iconst (pc' := 1433) dL_law_1432 rfl ?_
              refine zr_lald (pc' := 1434) dL_law_1433 rfl ps_165 kd_165 (by decide) (by decide) (by decide) ?_
              refine zr_iload (pc' := 1436) dL_law_1434 rfl rfl ?_
              refine zr_i2l (pc' := 1437) dL_law_1436 rfl h.1 ?_
              have h := h.2
              refine zl_lif_eq (tgt := 1443) (pc1 := 1438) (pc' := 1441) dL_law_1437 rfl dL_law_1438 rfl rfl h.1.1 h.1.2 (fun hc => ?_) (fun hc => ?_)
              · have h := h.2.1 hc
                refine zr_goto (pc' := 1471) dL_law_1443 rfl ?_
                refine zr_iinc (pc' := 1474) (al' := [(4, .inl (l4 + 7)), (6, .inl r155), (5, .inl r153), (3, .inr (.inr 165)), (2, .inr (.inr 102)), (1, .inr (.inr 0)), (0, .inr (.inr (-100)))]) dL_law_1471 rfl rfl (by decide) rfl ?_
                refine zr_goto (pc' := 23) dL_law_1474 rfl ?_
                obtain ⟨n', hn, h⟩ := h
                exact zl_al (ih n' hn _ _ _ _ h) ⟨rfl, rfl, rfl, rfl, rfl, trivial⟩
              · have h := h.2.2 hc
                refine zr_iconst (pc' := 1442) dL_law_1441 rfl ?_
                exact zr_ireturn dL_law_1442 rfl rfl (Or.inl rfl) kcb ksb (And.intro rfl h)
          · have h := h.2.2 hc
            refine zr_iconst (pc' := 1425) dL_law_1424 rfl ?_
            exact zr_ireturn dL_law_1425 rfl rfl (Or.inl rfl) kcb ksb (And.intro rfl h)
        · refine zr_tableIn (off := 1406) (tgt := 1446) dL_law_40 h.1 (by omega) (by omega) (by rw [hsx]; rfl) rfl ?_
          have h := h.2.2.2.2.2.2.2.2.2.2.2.2.2.2.2.2.2.2.2.2.2.2.2.2.2.2.2.2.2.2 hsx
          refine zr_aload_n (pc' := 1447) (i := 1) dL_law_1446 rfl rfl rfl ?_
          refine zr_aload_n (pc' := 1448) (i := 0) dL_law_1447 rfl rfl rfl ?_
          refine zr_iload (pc' := 1450) dL_law_1448 rfl rfl ?_
          refine zr_iconst (pc' := 1451) dL_law_1450 rfl ?_
          refine zr_iadd (pc' := 1452) dL_law_1451 rfl ?_
          refine zr_sld (pc' := 1453) dL_law_1452 rfl hL h.1.1 h.1.2 ?_
          have h := h.2
          refine zl_callV (pc' := 1456) (args := [.inl ((E.2.2.2.2.2.2 ((l4 + 1).toNat)).toInt)]) (st := []) (st' := fun r159 => [.inl r159]) dL_law_1453 rfl cv_L_149 ⟨rfl, rfl, by decide, by decide⟩ rfl ps_0 kd_0 rfl rfl (Nat.le_of_ble_eq_true rfl) (fun _ => rfl) kc ks h ?_
          intro r159 M160 h
          refine zr_aload_n (pc' := 1457) (i := 2) dL_law_1456 rfl rfl rfl ?_
          refine zr_aload_n (pc' := 1458) (i := 0) dL_law_1457 rfl rfl rfl ?_
          refine zr_iload (pc' := 1460) dL_law_1458 rfl rfl ?_
          refine zr_iconst (pc' := 1461) dL_law_1460 rfl ?_
          refine zr_iadd (pc' := 1462) dL_law_1461 rfl ?_
          refine zr_sld (pc' := 1463) dL_law_1462 rfl hL h.1.1 h.1.2 ?_
          have h := h.2
          refine zl_callV (pc' := 1466) (args := [.inl ((E.2.2.2.2.2.2 ((l4 + 1).toNat)).toInt)]) (st := [.inl r159]) (st' := fun r161 => [.inl r161, .inl r159]) dL_law_1463 rfl cv_L_152 ⟨rfl, rfl, by decide, by decide⟩ rfl ps_102 kd_102 rfl rfl (Nat.le_of_ble_eq_true rfl) (fun _ => rfl) kc ks h ?_
          intro r161 M162 h
          refine zr_icmp_eq (tgt := 1471) (pc' := 1469) dL_law_1466 rfl rfl h.1.1 h.1.2 (fun hc => ?_) (fun hc => ?_)
          · have h := h.2.1 hc
            refine zr_iinc (pc' := 1474) (al' := [(4, .inl (l4 + 7)), (3, .inr (.inr 165)), (2, .inr (.inr 102)), (1, .inr (.inr 0)), (0, .inr (.inr (-100)))]) dL_law_1471 rfl rfl (by decide) rfl ?_
            refine zr_goto (pc' := 23) dL_law_1474 rfl ?_
            obtain ⟨n', hn, h⟩ := h
            exact zl_al (ih n' hn _ _ _ _ h) ⟨rfl, rfl, rfl, rfl, rfl, trivial⟩
          · have h := h.2.2 hc
            refine zr_iconst (pc' := 1470) dL_law_1469 rfl ?_
            exact zr_ireturn dL_law_1470 rfl rfl (Or.inl rfl) kc ks (And.intro rfl h)
