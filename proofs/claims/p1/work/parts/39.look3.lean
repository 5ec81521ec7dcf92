/-! VolcanoWatch.look, and the look of the law -/
def zlps : List Cond := [(1, 21), (1, 22), (1, 23), (1, 24), (1, 25), (1, 31), (1, 32), (1, 33), (6, 13), (6, 14), (6, 19), (6, 20), (6, 22), (6, 23), (6, 24), (6, 25), (6, 26), (6, 27), (6, 28), (6, 29), (6, 30), (6, 31), (6, 32), (6, 33), (6, 34), (6, 35), (6, 36), (6, 37), (6, 38), (6, 39), (6, 40), (6, 41), (6, 42), (6, 43), (6, 44), (6, 45), (6, 46), (6, 47), (6, 48), (6, 49), (6, 50), (6, 51), (6, 52), (6, 53), (6, 54), (6, 55), (6, 56), (6, 57), (6, 58), (6, 60), (6, 61), (6, 62), (6, 63), (6, 64), (6, 65), (6, 66), (6, 67), (6, 68), (6, 69), (6, 70), (6, 71), (6, 73), (6, 74), (6, 75), (6, 76), (6, 77), (6, 78), (6, 79), (6, 80), (6, 81), (6, 82), (6, 83), (6, 84), (6, 85), (6, 86), (6, 88), (6, 89), (6, 90), (6, 91), (6, 92), (6, 93), (6, 95), (6, 96), (6, 97), (6, 98), (6, 99), (6, 100), (9, 89)].filterMap (fun q : Nat × Nat => (ztb q.1)[q.2]?)
theorem zlps_in {L : List Cond} (h : L.all (fun w => goodWord w && zlps.any (fun v => decide (v = w))) = true) : ∀ w ∈ L, w ∈ zT := by
  intro w hw
  have h1 := List.all_eq_true.mp h w hw
  simp only [Bool.and_eq_true, List.any_eq_true, decide_eq_true_eq] at h1
  obtain ⟨hg, v, hv, rfl⟩ := h1
  obtain ⟨q, -, hq⟩ := List.mem_filterMap.mp hv
  exact List.mem_filter.mpr ⟨ztb_in q.1 (List.mem_of_getElem? hq), hg⟩
def zrxI : ByteArray := ⟨#[0x2a, 0x2b, 0xb7, 0x00, 0x07, 0xb1]⟩
theorem zlwI : ∀ w ∈ (zOwnN RX11 321 "java/lang/IndexOutOfBoundsException" 7 zrxI).filter goodWord, w ∈ zT := zlps_in (by decide +kernel)
theorem zlnI : ∀ w ∈ (zOwnN RX11 321 "java/lang/IndexOutOfBoundsException" 7 zrxI).filter (fun w => !goodWord w), w ∈ zDcs.map Cond.declares ++ [.castable "java/lang/IndexOutOfBoundsException" "java/lang/IndexOutOfBoundsException"] := by decide +kernel
def zrxN : ByteArray := ⟨#[0x2a, 0x2b, 0xb7, 0x00, 0x0d, 0xb1]⟩
theorem zlwN : ∀ w ∈ (zOwnN RX11 337 "java/util/NoSuchElementException" 13 zrxN).filter goodWord, w ∈ zT := zlps_in (by decide +kernel)
theorem zlnN : ∀ w ∈ (zOwnN RX11 337 "java/util/NoSuchElementException" 13 zrxN).filter (fun w => !goodWord w), w ∈ zDcs.map Cond.declares ++ [.castable "java/util/NoSuchElementException" "java/util/NoSuchElementException"] := by decide +kernel
abbrev mXl : zD := (yX11_look, cX11_look, 3, (some .int), RX11, { frames := 6, cells := 1, slots := 6, locals := 82 }, 1, 6)
set_option maxRecDepth 20000 in
theorem vcX_look {E : zE} {M : zM} {Q : Int → zM → Prop} {XQ : String → zM → Prop} (l1 l2 : Int)
    (h : zP E mX1_has [.inr (.inr 28), .inl l1] M (fun r1 M2 => zR r1 ∧ (¬ r1 = 0 → zR l2 ∧ ((l2 = 0 → (0 ≤ l1 ∧ l1 < 64) ∧ Q (M2 29 l1.toNat) M2) ∧ (l2 = 1 → (0 ≤ l1 ∧ l1 < 64) ∧ Q (M2 30 l1.toNat) M2) ∧ (l2 = 2 → (0 ≤ l1 ∧ l1 < 64) ∧ Q (M2 31 l1.toNat) M2) ∧ ((l2 < 0 ∨ 2 < l2) → XQ "java/util/NoSuchElementException" M2))) ∧ (r1 = 0 → XQ "java/lang/IndexOutOfBoundsException" M2))) : zCX E mXl [.inr (.inr 0), .inl l1, .inl l2] M Q XQ := by
  refine zCX_of (by decide +kernel) rfl (Nat.le_of_ble_eq_true rfl) (fun p e s m ar below meth c ht => ?_)
  show zB p e s m ar below meth c _ E zNN (0, 0) mXl 0 [(0, .inr (.inr 0)), (1, .inl l1), (2, .inl l2)] [] M
  refine zx_aload_n (pc' := 1) (i := 0) dX11_look_0 rfl rfl rfl ?_
  refine zx_get (pc' := 4) dX11_look_1 rfl ps_0 kd_0 fl_X11_40 kc_11 (gv_0_8 _) ?_
  refine zx_iload_n (pc' := 5) (i := 1) dX11_look_4 rfl rfl rfl ?_
  refine zx_nv (pc' := 8) (args := [.inl l1]) (st := []) (st' := fun r1 => [.inl r1]) dX11_look_5 rfl cv_X11_197 ⟨rfl, rfl, by decide, by decide⟩ rfl ps_28 kd_28 rfl rfl (Nat.le_of_ble_eq_true rfl) (fun _ => rfl) h ?_
  intro r1 M2 h
  refine zx_if_ne (tgt := 22) (pc' := 11) dX11_look_8 rfl rfl h.1 (fun hc => ?_) (fun hc => ?_)
  · have h := h.2.1 hc
    refine zx_iload_n (pc' := 23) (i := 2) dX11_look_22 rfl rfl rfl ?_
    by_cases h0 : l2 < 0 ∨ 2 < l2
    · refine zx_tableOut (tgt := 78) dX11_look_23 h.1 h0 rfl ?_
      exact zx_throw (text := "no such what") (sa := E.2.2.2.2.1 203) ht (by decide +kernel) (by decide +kernel) (by decide +kernel) (by decide +kernel) (fun h => h.2.2.2.2.2.2.2.1.2) (by decide) (zi 6 85 rfl rfl) (zi 1 25 rfl rfl) zlwN zlnN (fun h => h.2.2.2.2.2.1) dX11_look_78 dX11_look_81 dX11_look_82 dX11_look_85 dX11_look_88 (by decide) (by decide) (by decide) (by decide) (by decide) (by decide) (h.2.2.2.2 h0)
    · have h3 : l2 = 0 ∨ l2 = 1 ∨ l2 = 2 := by omega
      rcases h3 with rfl | rfl | rfl
      · have h := h.2.1 rfl
        refine zx_tableIn (off := 25) (tgt := 48) dX11_look_23 (by unfold zR; decide) (by decide) (by decide) rfl rfl (zB_A rfl rfl ?_)
        refine zr_aload_n (pc' := 49) (i := 0) dX11_look_48 rfl rfl rfl ?_
        refine zr_get (pc' := 52) dX11_look_49 rfl ps_0 kd_0 fl_X11_40 kc_11 (gv_0_8 _) ?_
        refine zr_get (pc' := 55) dX11_look_52 rfl ps_28 kd_28 fl_X11_324 kc_1 (gv_28_2 _) ?_
        refine zr_iload_n (pc' := 56) (i := 1) dX11_look_55 rfl rfl rfl ?_
        refine zr_iald (pc' := 57) dX11_look_56 rfl ps_29 kd_29 (by decide) h.1.1 h.1.2 ?_
        exact zr_ireturn dX11_look_57 rfl rfl trivial (Nat.zero_le _) (Nat.zero_le _) (And.intro rfl h.2)
      · have h := h.2.2.1 rfl
        refine zx_tableIn (off := 35) (tgt := 58) dX11_look_23 (by unfold zR; decide) (by decide) (by decide) rfl rfl (zB_A rfl rfl ?_)
        refine zr_aload_n (pc' := 59) (i := 0) dX11_look_58 rfl rfl rfl ?_
        refine zr_get (pc' := 62) dX11_look_59 rfl ps_0 kd_0 fl_X11_40 kc_11 (gv_0_8 _) ?_
        refine zr_get (pc' := 65) dX11_look_62 rfl ps_28 kd_28 fl_X11_327 kc_1 (gv_28_3 _) ?_
        refine zr_iload_n (pc' := 66) (i := 1) dX11_look_65 rfl rfl rfl ?_
        refine zr_iald (pc' := 67) dX11_look_66 rfl ps_30 kd_30 (by decide) h.1.1 h.1.2 ?_
        exact zr_ireturn dX11_look_67 rfl rfl trivial (Nat.zero_le _) (Nat.zero_le _) (And.intro rfl h.2)
      · have h := h.2.2.2.1 rfl
        refine zx_tableIn (off := 45) (tgt := 68) dX11_look_23 (by unfold zR; decide) (by decide) (by decide) rfl rfl (zB_A rfl rfl ?_)
        refine zr_aload_n (pc' := 69) (i := 0) dX11_look_68 rfl rfl rfl ?_
        refine zr_get (pc' := 72) dX11_look_69 rfl ps_0 kd_0 fl_X11_40 kc_11 (gv_0_8 _) ?_
        refine zr_get (pc' := 75) dX11_look_72 rfl ps_28 kd_28 fl_X11_330 kc_1 (gv_28_4 _) ?_
        refine zr_iload_n (pc' := 76) (i := 1) dX11_look_75 rfl rfl rfl ?_
        refine zr_iald (pc' := 77) dX11_look_76 rfl ps_31 kd_31 (by decide) h.1.1 h.1.2 ?_
        exact zr_ireturn dX11_look_77 rfl rfl trivial (Nat.zero_le _) (Nat.zero_le _) (And.intro rfl h.2)
  · exact zx_throw (text := "no such cell") (sa := E.2.2.2.2.1 202) ht (by decide +kernel) (by decide +kernel) (by decide +kernel) (by decide +kernel) (fun h => h.2.2.2.2.2.2.2.1.1) (by decide) (zi 6 19 rfl rfl) (zi 1 24 rfl rfl) zlwI zlnI (fun h => h.2.2.2.2.1) dX11_look_11 dX11_look_14 dX11_look_15 dX11_look_18 dX11_look_21 (by decide) (by decide) (by decide) (by decide) (by decide) (by decide) (h.2.2 hc)
def zlhh : List (Nat × Nat × Nat × Nat) := [(0, 10, 13, 13), (0, 10, 17, 15)]
abbrev mLl : zD := (yL_look, cL_look, 5, (some .int), RL, { frames := 7, cells := 2, slots := 40, locals := 104 }, 2, 40)
theorem eL_look_0 : decode cL_look 0 = .ok (.aload_n 3, 1) := by decide +kernel
theorem eL_look_1 : decode cL_look 1 = .ok (.iconst 0, 1) := by decide +kernel
theorem eL_look_2 : decode cL_look 2 = .ok (.aload_n 0, 1) := by decide +kernel
theorem eL_look_3 : decode cL_look 3 = .ok (.iload_n 1, 1) := by decide +kernel
theorem eL_look_4 : decode cL_look 4 = .ok (.iload_n 2, 1) := by decide +kernel
theorem eL_look_5 : decode cL_look 5 = .ok (.invokevirtual 7, 3) := by decide +kernel
theorem eL_look_8 : decode cL_look 8 = .ok (.i2l, 1) := by decide +kernel
theorem eL_look_9 : decode cL_look 9 = .ok (.lastore, 1) := by decide +kernel
theorem eL_look_10 : decode cL_look 10 = .ok (.goto 11, 3) := by decide +kernel
theorem eL_look_13 : decode cL_look 13 = .ok (.astore 4, 2) := by decide +kernel
theorem eL_look_15 : decode cL_look 15 = .ok (.iconst 1, 1) := by decide +kernel
theorem eL_look_16 : decode cL_look 16 = .ok (.ireturn, 1) := by decide +kernel
theorem eL_look_17 : decode cL_look 17 = .ok (.astore 4, 2) := by decide +kernel
theorem eL_look_19 : decode cL_look 19 = .ok (.iconst 2, 1) := by decide +kernel
theorem eL_look_20 : decode cL_look 20 = .ok (.ireturn, 1) := by decide +kernel
theorem eL_look_21 : decode cL_look 21 = .ok (.iconst 0, 1) := by decide +kernel
theorem eL_look_22 : decode cL_look 22 = .ok (.ireturn, 1) := by decide +kernel
theorem cvL_look : zCv RL 7 mXl 11 2 := ⟨RX11, TX11, 18, rfl, by decide, rfl, zi 6 15 rfl rfl, zi 6 16 rfl rfl, zi 6 17 rfl rfl, zi 1 1 rfl rfl, zi 6 18 rfl rfl, by decide, by decide, by decide +kernel⟩
theorem csL_look : zCsH RL 139 mLl zlhh 4 := ⟨zi 6 10 rfl rfl, zi 6 11 rfl rfl, zi 1 0 rfl rfl, zi 6 12 rfl rfl, by decide, by decide, by decide +kernel⟩
set_option maxRecDepth 20000 in
theorem vcL_look {E : zE} {M : zM} {Q : Int → zM → Prop} (a b : Int)
    (h : zCX E mXl [.inr (.inr 0), .inl a, .inl b] M (fun r M1 => zR r ∧ ∀ M2, M2 = zup M1 165 0 r → Q 0 M2) (fun C M1 => (C = "java/lang/IndexOutOfBoundsException" ∧ Q 1 M1) ∨ (C = "java/util/NoSuchElementException" ∧ Q 2 M1))) : zCH E mLl zlhh [.inr (.inr 0), .inl a, .inl b, .inr (.inr 165)] M Q := by
  refine zCH_of (by decide +kernel) rfl (Nat.le_of_ble_eq_true rfl) (fun p e s m ar below meth c ht => ?_)
  show zB p e s m ar below meth c _ E zNN (0, 0) mLl 0 [(0, .inr (.inr 0)), (1, .inl a), (2, .inl b), (3, .inr (.inr 165))] [] M
  refine zx_aload_n (pc' := 1) (i := 3) eL_look_0 rfl rfl rfl ?_
  refine zx_iconst (pc' := 2) eL_look_1 rfl ?_
  refine zx_aload_n (pc' := 3) (i := 0) eL_look_2 rfl rfl rfl ?_
  refine zx_iload_n (pc' := 4) (i := 1) eL_look_3 rfl rfl rfl ?_
  refine zx_iload_n (pc' := 5) (i := 2) eL_look_4 rfl rfl rfl ?_
  refine zx_callX (pc' := 8) (args := [.inl a, .inl b]) (st := [.inl 0, .inr (.inr 165)]) (st' := fun r => [.inl r, .inl 0, .inr (.inr 165)]) eL_look_5 rfl cvL_look ⟨rfl, rfl, by decide, by decide⟩ ps_0 kd_0 rfl rfl (Nat.le_of_ble_eq_true rfl) ⟨by decide, by decide⟩ (fun _ => rfl) h ?_ ?_
  · intro C M' hx H1 locs1 ls q ce hC hH hS hl hce hcv hcl
    have hXt : zXt E.1 E.2.2.2.2.1 (zAs E) s s.heap := hC.2.2.2.2.2.2.2.2.2.1.2.2.2.1.2
    rcases hx with ⟨rfl, hq⟩ | ⟨rfl, hq⟩
    · exact zx_catch1 (own := RL) (name := "java/lang/IndexOutOfBoundsException") hC.2.2.2.1 ⟨0, 10, 13, 13⟩ [⟨0, 10, 17, 15⟩] ht rfl (by decide) (hC.2.2.2.2.1 _ (zi 6 13 rfl rfl)) (hXt.2.2.2.2.1.use rfl) hce hcv hcl (lv_astore hC.1 hC.2.1 eL_look_13 hl (by decide) rfl (fun ls' h9 => zB_A (d := mLl) (pc := 15) (M := M') (N := zNN) (Q := zQ Q) (p := p) (e := e) (s := s) (m := m) (ar := ar) (below := below) (meth := meth) (c := c) (al := []) (st := []) (cu := (0 + 1, 0 + 6)) rfl rfl (zr_iconst (pc' := 16) eL_look_15 rfl (zr_ireturn (ty := .int) (x := 1) eL_look_16 rfl rfl trivial (by decide) (by decide) (And.intro rfl hq))) H1 locs1 ls' ⟨hC, fun h => absurd h (by decide)⟩ hH hS ⟨h9.1, h9.2.1, fun q hq => nomatch hq⟩))
    · exact zx_catch2 (own := RL) (nm := "java/lang/IndexOutOfBoundsException") (name := "java/util/NoSuchElementException") hC.2.2.2.1 ⟨0, 10, 13, 13⟩ ⟨0, 10, 17, 15⟩ [] ht rfl (by decide) (hC.2.2.2.2.1 _ (zi 6 13 rfl rfl)) hXt.2.2.2.1 rfl (by decide) (hC.2.2.2.2.1 _ (zi 6 14 rfl rfl)) (hXt.2.2.2.2.2.1.use rfl) hce hcv hcl (lv_astore hC.1 hC.2.1 eL_look_17 hl (by decide) rfl (fun ls' h9 => zB_A (d := mLl) (pc := 19) (M := M') (N := zNN) (Q := zQ Q) (p := p) (e := e) (s := s) (m := m) (ar := ar) (below := below) (meth := meth) (c := c) (al := []) (st := []) (cu := (0 + 1, 0 + 6)) rfl rfl (zr_iconst (pc' := 20) eL_look_19 rfl (zr_ireturn (ty := .int) (x := 2) eL_look_20 rfl rfl trivial (by decide) (by decide) (And.intro rfl hq))) H1 locs1 ls' ⟨hC, fun h => absurd h (by decide)⟩ hH hS ⟨h9.1, h9.2.1, fun q hq => nomatch hq⟩))
  · intro r M1 h
    refine zB_A rfl rfl ?_
    refine zr_i2l (pc' := 9) eL_look_8 rfl h.1 ?_
    refine zr_last (pc' := 10) eL_look_9 rfl ps_165 kd_165 (by decide) (by decide) (by decide) (fun M2 hM2 => ?_)
    refine zr_goto (pc' := 21) eL_look_10 rfl ?_
    refine zr_iconst (pc' := 22) eL_look_21 rfl ?_
    exact zr_ireturn eL_look_22 rfl rfl trivial (by decide) (by decide) (And.intro rfl (h.2 M2 hM2))
theorem look_of {E : zE} {M : zM} {Q' : Int → zM → Prop} {a b : Int} (h : zCH E mLl zlhh [.inr (.inr 0), .inl a, .inl b, .inr (.inr 165)] M Q') : zLook E a b M Q' := by
  intro c s st al Q h8 hc hs k
  exact zr_callSH (pc' := 1395) (args := [.inr (.inr 0), .inl a, .inl b, .inr (.inr 165)]) (st := st) (st' := fun r => .inl r :: st) dL_law_1392 rfl csL_look ⟨rfl, rfl, by decide, by decide⟩ rfl rfl h8 ⟨hc, hs⟩ (fun _ => rfl) h (fun r M' hq => k r M' hq)
