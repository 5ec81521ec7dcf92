def nM (M : zM) : zM :=
  let M1 := zal M 0 (11, 0)
  let M2 := nM_0 M1
  let M3 := zal M2 102 (12, 0)
  let M4 := nM_102 M3
  let M5 := zal M4 165 (101, 1)
  M5
set_option maxRecDepth 20000 in
theorem law_begin {E : zE} {M : zM} {Q : Int → zN → zM → Prop} (h : zA E (zNk 166) (166, 31568) mL_law 23 [(4, .inl 0), (3, .inr (.inr 165)), (2, .inr (.inr 102)), (1, .inr (.inr 0)), (0, .inr (.inr (-100)))] [] (nM M) Q) : zA E ([], fun _ _ => none, true) (0, 0) mL_law 0 [(0, .inr (.inr (-100)))] [] M Q := by
  show zA E (zNk 0) (0, 0) mL_law 0 [(0, .inr (.inr (-100)))] [] M Q
  refine zk_new (k := 0) (k' := 1) (cu' := (1, 18)) (pc' := 3) dL_law_0 rfl rfl rfl kc_11 rfl (by decide) (zi 1 26 rfl rfl) in_11 (zi 1 1 rfl rfl) rfl (Nat.le_of_ble_eq_true rfl) (Nat.le_of_ble_eq_true rfl) (fun M1 hM1 => ?_)
  refine zr_dup (pc' := 4) dL_law_3 rfl rfl ?_
  refine zk_callI (k := 1) (k' := 102) (f := nM_0) (cu' := (102, 16818)) (pc' := 7) dL_law_4 rfl ck_L_17 ⟨rfl, rfl, by decide, by decide⟩ (by decide) (Nat.le_of_ble_eq_true rfl) rfl (Nat.le_of_ble_eq_true rfl) (Nat.le_of_ble_eq_true rfl) rfl (Nat.le_of_ble_eq_true rfl) (in_o0 E _) (fun M2 hM2 => ?_)
  refine zr_astore_n (pc' := 8) (i := 1) (al' := [(1, .inr (.inr 0)), (0, .inr (.inr (-100)))]) dL_law_7 rfl rfl (by decide) rfl ?_
  refine zk_new (k := 102) (k' := 103) (cu' := (103, 16925)) (pc' := 11) dL_law_8 rfl rfl rfl kc_12 rfl (by decide) (zi 6 101 rfl rfl) in_12 (zi 1 14 rfl rfl) rfl (Nat.le_of_ble_eq_true rfl) (Nat.le_of_ble_eq_true rfl) (fun M3 hM3 => ?_)
  refine zr_dup (pc' := 12) dL_law_11 rfl rfl ?_
  refine zk_callI (k := 103) (k' := 165) (f := nM_102) (cu' := (165, 31567)) (pc' := 15) dL_law_12 rfl ck_L_20 ⟨rfl, rfl, by decide, by decide⟩ (by decide) (Nat.le_of_ble_eq_true rfl) rfl (Nat.le_of_ble_eq_true rfl) (Nat.le_of_ble_eq_true rfl) rfl (Nat.le_of_ble_eq_true rfl) (in_o102 E _) (fun M4 hM4 => ?_)
  refine zr_astore_n (pc' := 16) (i := 2) (al' := [(2, .inr (.inr 102)), (1, .inr (.inr 0)), (0, .inr (.inr (-100)))]) dL_law_15 rfl rfl (by decide) rfl ?_
  refine zr_iconst (pc' := 17) dL_law_16 rfl ?_
  refine zk_newa (k := 165) (k' := 166) (n := 1) (t0 := 1) (cu' := (166, 31568)) (pc' := 19) dL_law_17 rfl rfl rfl rfl (Or.inr (Or.inl ⟨rfl, rfl⟩)) (fun _ => rfl) (zi 1 167 rfl rfl) (by decide) rfl (Nat.le_of_ble_eq_true rfl) (Nat.le_of_ble_eq_true rfl) (fun M5 hM5 => ?_)
  refine zr_astore_n (pc' := 20) (i := 3) (al' := [(3, .inr (.inr 165)), (2, .inr (.inr 102)), (1, .inr (.inr 0)), (0, .inr (.inr (-100)))]) dL_law_19 rfl rfl (by decide) rfl ?_
  refine zr_iconst (pc' := 21) dL_law_20 rfl ?_
  refine zr_istore (pc' := 23) (al' := [(4, .inl 0), (3, .inr (.inr 165)), (2, .inr (.inr 102)), (1, .inr (.inr 0)), (0, .inr (.inr (-100)))]) dL_law_21 rfl (by decide) rfl ?_
  subst hM1
  subst hM2
  subst hM3
  subst hM4
  subst hM5
  exact h
