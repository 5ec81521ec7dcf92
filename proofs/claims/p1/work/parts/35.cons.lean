theorem ck_X7_11 : zCin RX7 "VolcanoWatch" 11 mX9_init 0 := ⟨by decide +kernel, zi 1 43 rfl rfl, zi 1 3 rfl rfl, zi 1 44 rfl rfl, by decide +kernel, by decide +kernel, by decide +kernel, rfl, rfl⟩
theorem ck_X11_9 : zCin RX11 "VolcanoWatch" 9 mX7_init 0 := ⟨by decide +kernel, zi 1 37 rfl rfl, zi 1 2 rfl rfl, zi 1 38 rfl rfl, by decide +kernel, by decide +kernel, by decide +kernel, rfl, rfl⟩
theorem ck_X11_18 : zCin RX11 "VolcanoWatch" 18 mX6_init 0 := ⟨by decide +kernel, zi 1 120 rfl rfl, zi 1 4 rfl rfl, zi 1 121 rfl rfl, by decide +kernel, by decide +kernel, by decide +kernel, rfl, rfl⟩
theorem ck_X5_29 : zCin RX5 "VolcanoWatch" 29 mX8_init 0 := ⟨by decide +kernel, zi 1 177 rfl rfl, zi 1 6 rfl rfl, zi 1 178 rfl rfl, by decide +kernel, by decide +kernel, by decide +kernel, rfl, rfl⟩
theorem ck_X11_28 : zCi RX11 28 mX5_init 0 := ⟨zi 1 170 rfl rfl, zi 1 171 rfl rfl, zi 1 5 rfl rfl, zi 1 172 rfl rfl, by decide +kernel, by decide +kernel, by decide +kernel, rfl, rfl⟩
theorem ck_X11_39 : zCin RX11 "VolcanoWatch" 39 mX1_init 0 := ⟨by decide +kernel, zi 2 1 rfl rfl, zi 1 8 rfl rfl, zi 2 2 rfl rfl, by decide +kernel, by decide +kernel, by decide +kernel, rfl, rfl⟩
theorem ck_X11_56 : zCin RX11 "VolcanoWatch" 56 mX0_init 0 := ⟨by decide +kernel, zi 2 43 rfl rfl, zi 1 9 rfl rfl, zi 2 44 rfl rfl, by decide +kernel, by decide +kernel, by decide +kernel, rfl, rfl⟩
theorem ck_X11_63 : zCin RX11 "VolcanoWatch" 63 mX3_init 0 := ⟨by decide +kernel, zi 2 92 rfl rfl, zi 1 10 rfl rfl, zi 2 93 rfl rfl, by decide +kernel, by decide +kernel, by decide +kernel, rfl, rfl⟩
theorem ck_X11_70 : zCin RX11 "VolcanoWatch" 70 mX2_init 0 := ⟨by decide +kernel, zi 2 155 rfl rfl, zi 1 11 rfl rfl, zi 2 156 rfl rfl, by decide +kernel, by decide +kernel, by decide +kernel, rfl, rfl⟩
theorem ck_X11_87 : zCin RX11 "VolcanoWatch" 87 mX10_init 0 := ⟨by decide +kernel, zi 2 190 rfl rfl, zi 1 12 rfl rfl, zi 2 191 rfl rfl, by decide +kernel, by decide +kernel, by decide +kernel, rfl, rfl⟩
theorem ck_X11_88 : zCin RX11 "VolcanoWatch" 88 mX4_init 0 := ⟨by decide +kernel, zi 2 216 rfl rfl, zi 1 13 rfl rfl, zi 2 217 rfl rfl, by decide +kernel, by decide +kernel, by decide +kernel, rfl, rfl⟩
theorem ck_L_17 : zCi RL 17 mX11_init 0 := ⟨zi 1 28 rfl rfl, zi 1 29 rfl rfl, zi 1 1 rfl rfl, zi 1 30 rfl rfl, by decide +kernel, by decide +kernel, by decide +kernel, rfl, rfl⟩
theorem ck_L_20 : zCi RL 20 mX12_init 0 := ⟨zi 6 103 rfl rfl, zi 6 104 rfl rfl, zi 1 14 rfl rfl, zi 6 105 rfl rfl, by decide +kernel, by decide +kernel, by decide +kernel, rfl, rfl⟩
def nM_2 (M : zM) : zM :=
  let M1 := zal M 3 (100, 500)
  let M2 := zup M1 2 0 3
  M2
set_option maxRecDepth 20000 in
theorem in_o2 (E : zE) (M : zM) : zC E (zNk 3) mX9_init [.inr (.inr 2)] M (fun _ N' M' => N' = zNk 4 ∧ M' = nM_2 M) := by
  refine zC_of (by decide +kernel) rfl (by rw [lg_zl]; exact Nat.le_of_ble_eq_true rfl) ?_
  show zA E (zNk 3) (0, 0) mX9_init 0 [(0, .inr (.inr 2))] [] M _
  refine zr_aload_n (pc' := 1) (i := 0) dX9_init_0 rfl rfl rfl ?_
  refine zr_objInit (pc' := 4) dX9_init_1 rfl (by decide) (zi 1 45 rfl rfl) (zi 1 32 rfl rfl) (zi 1 33 rfl rfl) (by decide) (Nat.le_of_ble_eq_true rfl) ?_
  refine zr_aload_n (pc' := 5) (i := 0) dX9_init_4 rfl rfl rfl ?_
  refine zr_sipush (pc' := 8) dX9_init_5 rfl rfl ?_
  refine zk_newa (k := 3) (k' := 4) (n := 500) (t0 := 0) (cu' := (1, 500)) (pc' := 10) dX9_init_8 rfl rfl rfl rfl (Or.inl ⟨rfl, rfl⟩) (fun _ => rfl) (zi 1 72 rfl rfl) (by decide) rfl (Nat.le_of_ble_eq_true rfl) (Nat.le_of_ble_eq_true rfl) (fun M1 hM1 => ?_)
  refine zr_putF (pc' := 13) (x := 3) dX9_init_10 rfl (by decide) (zNk_kd (k := 4) (a := 2) rfl (by decide)) fl_X9_9 kc_9 rfl rfl rfl rfl rfl trivial (fun M2 hM2 => ?_)
  refine zr_return (x := 0) dX9_init_13 rfl (Nat.le_of_ble_eq_true rfl) (Nat.le_of_ble_eq_true rfl) ⟨rfl, ?_⟩
  subst hM1
  subst hM2
  rfl
def nM_1 (M : zM) : zM :=
  let M1 := zal M 2 (9, 0)
  let M2 := nM_2 M1
  let M3 := zup M2 1 0 2
  let M4 := zup M3 1 2 (-1)
  let M5 := zal M4 4 (100, 72)
  let M6 := zup M5 1 6 4
  let M7 := zal M6 5 (102, 9)
  let M8 := zup M7 1 9 5
  M8
set_option maxRecDepth 20000 in
theorem in_o1 (E : zE) (M : zM) : zC E (zNk 2) mX7_init [.inr (.inr 1)] M (fun _ N' M' => N' = zNk 6 ∧ M' = nM_1 M) := by
  refine zC_of (by decide +kernel) rfl (by rw [lg_zl]; exact Nat.le_of_ble_eq_true rfl) ?_
  show zA E (zNk 2) (0, 0) mX7_init 0 [(0, .inr (.inr 1))] [] M _
  refine zr_aload_n (pc' := 1) (i := 0) dX7_init_0 rfl rfl rfl ?_
  refine zr_objInit (pc' := 4) dX7_init_1 rfl (by decide) (zi 1 39 rfl rfl) (zi 1 32 rfl rfl) (zi 1 33 rfl rfl) (by decide) (Nat.le_of_ble_eq_true rfl) ?_
  refine zr_aload_n (pc' := 5) (i := 0) dX7_init_4 rfl rfl rfl ?_
  refine zk_new (k := 2) (k' := 3) (cu' := (1, 7)) (pc' := 8) dX7_init_5 rfl rfl rfl kc_9 rfl (by decide) (zi 1 40 rfl rfl) in_9 (zi 1 3 rfl rfl) rfl (Nat.le_of_ble_eq_true rfl) (Nat.le_of_ble_eq_true rfl) (fun M1 hM1 => ?_)
  refine zr_dup (pc' := 9) dX7_init_8 rfl rfl ?_
  refine zk_callIN (k := 3) (k' := 4) (f := nM_2) (cu' := (2, 507)) (pc' := 12) dX7_init_9 rfl ck_X7_11 ⟨rfl, rfl, by decide, by decide⟩ (by decide) (Nat.le_of_ble_eq_true rfl) rfl (Nat.le_of_ble_eq_true rfl) (Nat.le_of_ble_eq_true rfl) rfl (Nat.le_of_ble_eq_true rfl) (in_o2 E _) (fun M2 hM2 => ?_)
  refine zr_putF (pc' := 15) (x := 2) dX7_init_12 rfl (by decide) (zNk_kd (k := 4) (a := 1) rfl (by decide)) fl_X7_12 kc_7 rfl rfl rfl rfl rfl trivial (fun M3 hM3 => ?_)
  refine zr_aload_n (pc' := 16) (i := 0) dX7_init_15 rfl rfl rfl ?_
  refine zr_iconst (pc' := 17) dX7_init_16 rfl ?_
  refine zr_put (pc' := 20) (x := (-1)) dX7_init_17 rfl (by decide) (zNk_kd (k := 4) (a := 1) rfl (by decide)) fl_X7_18 kc_7 rfl rfl rfl trivial (fun M4 hM4 => ?_)
  refine zr_aload_n (pc' := 21) (i := 0) dX7_init_20 rfl rfl rfl ?_
  refine zr_bipush (pc' := 23) dX7_init_21 rfl rfl ?_
  refine zk_newa (k := 4) (k' := 5) (n := 72) (t0 := 0) (cu' := (3, 579)) (pc' := 25) dX7_init_23 rfl rfl rfl rfl (Or.inl ⟨rfl, rfl⟩) (fun _ => rfl) (zi 1 72 rfl rfl) (by decide) rfl (Nat.le_of_ble_eq_true rfl) (Nat.le_of_ble_eq_true rfl) (fun M5 hM5 => ?_)
  refine zr_putF (pc' := 28) (x := 4) dX7_init_25 rfl (by decide) (zNk_kd (k := 5) (a := 1) rfl (by decide)) fl_X7_24 kc_7 rfl rfl rfl rfl rfl trivial (fun M6 hM6 => ?_)
  refine zr_aload_n (pc' := 29) (i := 0) dX7_init_28 rfl rfl rfl ?_
  refine zr_bipush (pc' := 31) dX7_init_29 rfl rfl ?_
  refine zk_newa (k := 5) (k' := 6) (n := 9) (t0 := 2) (cu' := (4, 588)) (pc' := 33) dX7_init_31 rfl rfl rfl rfl (Or.inr (Or.inr ⟨rfl, rfl⟩)) (fun _ => rfl) (zi 1 116 rfl rfl) (by decide) rfl (Nat.le_of_ble_eq_true rfl) (Nat.le_of_ble_eq_true rfl) (fun M7 hM7 => ?_)
  refine zr_putF (pc' := 36) (x := 5) dX7_init_33 rfl (by decide) (zNk_kd (k := 6) (a := 1) rfl (by decide)) fl_X7_28 kc_7 rfl rfl rfl rfl rfl trivial (fun M8 hM8 => ?_)
  refine zr_return (x := 0) dX7_init_36 rfl (Nat.le_of_ble_eq_true rfl) (Nat.le_of_ble_eq_true rfl) ⟨rfl, ?_⟩
  subst hM1
  subst hM2
  subst hM3
  subst hM4
  subst hM5
  subst hM6
  subst hM7
  subst hM8
  rfl
def nM_6 (M : zM) : zM :=
  let M1 := zal M 7 (100, 64)
  let M2 := zup M1 6 0 7
  let M3 := zal M2 8 (100, 64)
  let M4 := zup M3 6 1 8
  let M5 := zal M4 9 (100, 64)
  let M6 := zup M5 6 2 9
  let M7 := zal M6 10 (100, 12)
  let M8 := zup M7 6 3 10
  let M9 := zal M8 11 (100, 12)
  let M10 := zup M9 6 4 11
  let M11 := zal M10 12 (101, 64)
  let M12 := zup M11 6 5 12
  M12
set_option maxRecDepth 20000 in
theorem in_o6 (E : zE) (M : zM) : zC E (zNk 7) mX6_init [.inr (.inr 6)] M (fun _ N' M' => N' = zNk 13 ∧ M' = nM_6 M) := by
  refine zC_of (by decide +kernel) rfl (by rw [lg_zl]; exact Nat.le_of_ble_eq_true rfl) ?_
  show zA E (zNk 7) (0, 0) mX6_init 0 [(0, .inr (.inr 6))] [] M _
  refine zr_aload_n (pc' := 1) (i := 0) dX6_init_0 rfl rfl rfl ?_
  refine zr_objInit (pc' := 4) dX6_init_1 rfl (by decide) (zi 1 122 rfl rfl) (zi 1 32 rfl rfl) (zi 1 33 rfl rfl) (by decide) (Nat.le_of_ble_eq_true rfl) ?_
  refine zr_aload_n (pc' := 5) (i := 0) dX6_init_4 rfl rfl rfl ?_
  refine zr_bipush (pc' := 7) dX6_init_5 rfl rfl ?_
  refine zk_newa (k := 7) (k' := 8) (n := 64) (t0 := 0) (cu' := (1, 64)) (pc' := 9) dX6_init_7 rfl rfl rfl rfl (Or.inl ⟨rfl, rfl⟩) (fun _ => rfl) (zi 1 72 rfl rfl) (by decide) rfl (Nat.le_of_ble_eq_true rfl) (Nat.le_of_ble_eq_true rfl) (fun M1 hM1 => ?_)
  refine zr_putF (pc' := 12) (x := 7) dX6_init_9 rfl (by decide) (zNk_kd (k := 8) (a := 6) rfl (by decide)) fl_X6_11 kc_6 rfl rfl rfl rfl rfl trivial (fun M2 hM2 => ?_)
  refine zr_aload_n (pc' := 13) (i := 0) dX6_init_12 rfl rfl rfl ?_
  refine zr_bipush (pc' := 15) dX6_init_13 rfl rfl ?_
  refine zk_newa (k := 8) (k' := 9) (n := 64) (t0 := 0) (cu' := (2, 128)) (pc' := 17) dX6_init_15 rfl rfl rfl rfl (Or.inl ⟨rfl, rfl⟩) (fun _ => rfl) (zi 1 72 rfl rfl) (by decide) rfl (Nat.le_of_ble_eq_true rfl) (Nat.le_of_ble_eq_true rfl) (fun M3 hM3 => ?_)
  refine zr_putF (pc' := 20) (x := 8) dX6_init_17 rfl (by decide) (zNk_kd (k := 9) (a := 6) rfl (by decide)) fl_X6_15 kc_6 rfl rfl rfl rfl rfl trivial (fun M4 hM4 => ?_)
  refine zr_aload_n (pc' := 21) (i := 0) dX6_init_20 rfl rfl rfl ?_
  refine zr_bipush (pc' := 23) dX6_init_21 rfl rfl ?_
  refine zk_newa (k := 9) (k' := 10) (n := 64) (t0 := 0) (cu' := (3, 192)) (pc' := 25) dX6_init_23 rfl rfl rfl rfl (Or.inl ⟨rfl, rfl⟩) (fun _ => rfl) (zi 1 72 rfl rfl) (by decide) rfl (Nat.le_of_ble_eq_true rfl) (Nat.le_of_ble_eq_true rfl) (fun M5 hM5 => ?_)
  refine zr_putF (pc' := 28) (x := 9) dX6_init_25 rfl (by decide) (zNk_kd (k := 10) (a := 6) rfl (by decide)) fl_X6_18 kc_6 rfl rfl rfl rfl rfl trivial (fun M6 hM6 => ?_)
  refine zr_aload_n (pc' := 29) (i := 0) dX6_init_28 rfl rfl rfl ?_
  refine zr_bipush (pc' := 31) dX6_init_29 rfl rfl ?_
  refine zk_newa (k := 10) (k' := 11) (n := 12) (t0 := 0) (cu' := (4, 204)) (pc' := 33) dX6_init_31 rfl rfl rfl rfl (Or.inl ⟨rfl, rfl⟩) (fun _ => rfl) (zi 1 72 rfl rfl) (by decide) rfl (Nat.le_of_ble_eq_true rfl) (Nat.le_of_ble_eq_true rfl) (fun M7 hM7 => ?_)
  refine zr_putF (pc' := 36) (x := 10) dX6_init_33 rfl (by decide) (zNk_kd (k := 11) (a := 6) rfl (by decide)) fl_X6_21 kc_6 rfl rfl rfl rfl rfl trivial (fun M8 hM8 => ?_)
  refine zr_aload_n (pc' := 37) (i := 0) dX6_init_36 rfl rfl rfl ?_
  refine zr_bipush (pc' := 39) dX6_init_37 rfl rfl ?_
  refine zk_newa (k := 11) (k' := 12) (n := 12) (t0 := 0) (cu' := (5, 216)) (pc' := 41) dX6_init_39 rfl rfl rfl rfl (Or.inl ⟨rfl, rfl⟩) (fun _ => rfl) (zi 1 72 rfl rfl) (by decide) rfl (Nat.le_of_ble_eq_true rfl) (Nat.le_of_ble_eq_true rfl) (fun M9 hM9 => ?_)
  refine zr_putF (pc' := 44) (x := 11) dX6_init_41 rfl (by decide) (zNk_kd (k := 12) (a := 6) rfl (by decide)) fl_X6_24 kc_6 rfl rfl rfl rfl rfl trivial (fun M10 hM10 => ?_)
  refine zr_aload_n (pc' := 45) (i := 0) dX6_init_44 rfl rfl rfl ?_
  refine zr_bipush (pc' := 47) dX6_init_45 rfl rfl ?_
  refine zk_newa (k := 12) (k' := 13) (n := 64) (t0 := 1) (cu' := (6, 280)) (pc' := 49) dX6_init_47 rfl rfl rfl rfl (Or.inr (Or.inl ⟨rfl, rfl⟩)) (fun _ => rfl) (zi 1 167 rfl rfl) (by decide) rfl (Nat.le_of_ble_eq_true rfl) (Nat.le_of_ble_eq_true rfl) (fun M11 hM11 => ?_)
  refine zr_putF (pc' := 52) (x := 12) dX6_init_49 rfl (by decide) (zNk_kd (k := 13) (a := 6) rfl (by decide)) fl_X6_27 kc_6 rfl rfl rfl rfl rfl trivial (fun M12 hM12 => ?_)
  refine zr_return (x := 0) dX6_init_52 rfl (Nat.le_of_ble_eq_true rfl) (Nat.le_of_ble_eq_true rfl) ⟨rfl, ?_⟩
  subst hM1
  subst hM2
  subst hM3
  subst hM4
  subst hM5
  subst hM6
  subst hM7
  subst hM8
  subst hM9
  subst hM10
  subst hM11
  subst hM12
  rfl
def nM_13 (M : zM) : zM :=
  let M1 := zal M 14 (100, 64)
  let M2 := zup M1 13 0 14
  let M3 := zal M2 15 (100, 64)
  let M4 := zup M3 13 1 15
  let M5 := zal M4 16 (100, 64)
  let M6 := zup M5 13 2 16
  let M7 := zal M6 17 (100, 12)
  let M8 := zup M7 13 3 17
  let M9 := zal M8 18 (100, 12)
  let M10 := zup M9 13 4 18
  let M11 := zal M10 19 (101, 64)
  let M12 := zup M11 13 5 19
  M12
set_option maxRecDepth 20000 in
theorem in_o13 (E : zE) (M : zM) : zC E (zNk 14) mX6_init [.inr (.inr 13)] M (fun _ N' M' => N' = zNk 20 ∧ M' = nM_13 M) := by
  refine zC_of (by decide +kernel) rfl (by rw [lg_zl]; exact Nat.le_of_ble_eq_true rfl) ?_
  show zA E (zNk 14) (0, 0) mX6_init 0 [(0, .inr (.inr 13))] [] M _
  refine zr_aload_n (pc' := 1) (i := 0) dX6_init_0 rfl rfl rfl ?_
  refine zr_objInit (pc' := 4) dX6_init_1 rfl (by decide) (zi 1 122 rfl rfl) (zi 1 32 rfl rfl) (zi 1 33 rfl rfl) (by decide) (Nat.le_of_ble_eq_true rfl) ?_
  refine zr_aload_n (pc' := 5) (i := 0) dX6_init_4 rfl rfl rfl ?_
  refine zr_bipush (pc' := 7) dX6_init_5 rfl rfl ?_
  refine zk_newa (k := 14) (k' := 15) (n := 64) (t0 := 0) (cu' := (1, 64)) (pc' := 9) dX6_init_7 rfl rfl rfl rfl (Or.inl ⟨rfl, rfl⟩) (fun _ => rfl) (zi 1 72 rfl rfl) (by decide) rfl (Nat.le_of_ble_eq_true rfl) (Nat.le_of_ble_eq_true rfl) (fun M1 hM1 => ?_)
  refine zr_putF (pc' := 12) (x := 14) dX6_init_9 rfl (by decide) (zNk_kd (k := 15) (a := 13) rfl (by decide)) fl_X6_11 kc_6 rfl rfl rfl rfl rfl trivial (fun M2 hM2 => ?_)
  refine zr_aload_n (pc' := 13) (i := 0) dX6_init_12 rfl rfl rfl ?_
  refine zr_bipush (pc' := 15) dX6_init_13 rfl rfl ?_
  refine zk_newa (k := 15) (k' := 16) (n := 64) (t0 := 0) (cu' := (2, 128)) (pc' := 17) dX6_init_15 rfl rfl rfl rfl (Or.inl ⟨rfl, rfl⟩) (fun _ => rfl) (zi 1 72 rfl rfl) (by decide) rfl (Nat.le_of_ble_eq_true rfl) (Nat.le_of_ble_eq_true rfl) (fun M3 hM3 => ?_)
  refine zr_putF (pc' := 20) (x := 15) dX6_init_17 rfl (by decide) (zNk_kd (k := 16) (a := 13) rfl (by decide)) fl_X6_15 kc_6 rfl rfl rfl rfl rfl trivial (fun M4 hM4 => ?_)
  refine zr_aload_n (pc' := 21) (i := 0) dX6_init_20 rfl rfl rfl ?_
  refine zr_bipush (pc' := 23) dX6_init_21 rfl rfl ?_
  refine zk_newa (k := 16) (k' := 17) (n := 64) (t0 := 0) (cu' := (3, 192)) (pc' := 25) dX6_init_23 rfl rfl rfl rfl (Or.inl ⟨rfl, rfl⟩) (fun _ => rfl) (zi 1 72 rfl rfl) (by decide) rfl (Nat.le_of_ble_eq_true rfl) (Nat.le_of_ble_eq_true rfl) (fun M5 hM5 => ?_)
  refine zr_putF (pc' := 28) (x := 16) dX6_init_25 rfl (by decide) (zNk_kd (k := 17) (a := 13) rfl (by decide)) fl_X6_18 kc_6 rfl rfl rfl rfl rfl trivial (fun M6 hM6 => ?_)
  refine zr_aload_n (pc' := 29) (i := 0) dX6_init_28 rfl rfl rfl ?_
  refine zr_bipush (pc' := 31) dX6_init_29 rfl rfl ?_
  refine zk_newa (k := 17) (k' := 18) (n := 12) (t0 := 0) (cu' := (4, 204)) (pc' := 33) dX6_init_31 rfl rfl rfl rfl (Or.inl ⟨rfl, rfl⟩) (fun _ => rfl) (zi 1 72 rfl rfl) (by decide) rfl (Nat.le_of_ble_eq_true rfl) (Nat.le_of_ble_eq_true rfl) (fun M7 hM7 => ?_)
  refine zr_putF (pc' := 36) (x := 17) dX6_init_33 rfl (by decide) (zNk_kd (k := 18) (a := 13) rfl (by decide)) fl_X6_21 kc_6 rfl rfl rfl rfl rfl trivial (fun M8 hM8 => ?_)
  refine zr_aload_n (pc' := 37) (i := 0) dX6_init_36 rfl rfl rfl ?_
  refine zr_bipush (pc' := 39) dX6_init_37 rfl rfl ?_
  refine zk_newa (k := 18) (k' := 19) (n := 12) (t0 := 0) (cu' := (5, 216)) (pc' := 41) dX6_init_39 rfl rfl rfl rfl (Or.inl ⟨rfl, rfl⟩) (fun _ => rfl) (zi 1 72 rfl rfl) (by decide) rfl (Nat.le_of_ble_eq_true rfl) (Nat.le_of_ble_eq_true rfl) (fun M9 hM9 => ?_)
  refine zr_putF (pc' := 44) (x := 18) dX6_init_41 rfl (by decide) (zNk_kd (k := 19) (a := 13) rfl (by decide)) fl_X6_24 kc_6 rfl rfl rfl rfl rfl trivial (fun M10 hM10 => ?_)
  refine zr_aload_n (pc' := 45) (i := 0) dX6_init_44 rfl rfl rfl ?_
  refine zr_bipush (pc' := 47) dX6_init_45 rfl rfl ?_
  refine zk_newa (k := 19) (k' := 20) (n := 64) (t0 := 1) (cu' := (6, 280)) (pc' := 49) dX6_init_47 rfl rfl rfl rfl (Or.inr (Or.inl ⟨rfl, rfl⟩)) (fun _ => rfl) (zi 1 167 rfl rfl) (by decide) rfl (Nat.le_of_ble_eq_true rfl) (Nat.le_of_ble_eq_true rfl) (fun M11 hM11 => ?_)
  refine zr_putF (pc' := 52) (x := 19) dX6_init_49 rfl (by decide) (zNk_kd (k := 20) (a := 13) rfl (by decide)) fl_X6_27 kc_6 rfl rfl rfl rfl rfl trivial (fun M12 hM12 => ?_)
  refine zr_return (x := 0) dX6_init_52 rfl (Nat.le_of_ble_eq_true rfl) (Nat.le_of_ble_eq_true rfl) ⟨rfl, ?_⟩
  subst hM1
  subst hM2
  subst hM3
  subst hM4
  subst hM5
  subst hM6
  subst hM7
  subst hM8
  subst hM9
  subst hM10
  subst hM11
  subst hM12
  rfl
def nM_26 (M : zM) : zM := M
set_option maxRecDepth 20000 in
theorem in_o26 (E : zE) (M : zM) : zC E (zNk 27) mX8_init [.inr (.inr 26)] M (fun _ N' M' => N' = zNk 27 ∧ M' = nM_26 M) := by
  refine zC_of (by decide +kernel) rfl (by rw [lg_zl]; exact Nat.le_of_ble_eq_true rfl) ?_
  show zA E (zNk 27) (0, 0) mX8_init 0 [(0, .inr (.inr 26))] [] M _
  refine zr_aload_n (pc' := 1) (i := 0) dX8_init_0 rfl rfl rfl ?_
  refine zr_objInit (pc' := 4) dX8_init_1 rfl (by decide) (zi 1 179 rfl rfl) (zi 1 32 rfl rfl) (zi 1 33 rfl rfl) (by decide) (Nat.le_of_ble_eq_true rfl) ?_
  refine zr_return (x := 0) dX8_init_4 rfl (Nat.le_of_ble_eq_true rfl) (Nat.le_of_ble_eq_true rfl) ⟨rfl, ?_⟩
  rfl
def nM_20 (M : zM) : zM :=
  let M1 := zal M 21 (100, 8)
  let M2 := zup M1 20 0 21
  let M3 := zal M2 22 (100, 800)
  let M4 := zup M3 20 2 22
  let M5 := zal M4 23 (100, 400)
  let M6 := zup M5 20 3 23
  let M7 := zal M6 24 (100, 400)
  let M8 := zup M7 20 4 24
  let M9 := zal M8 25 (100, 400)
  let M10 := zup M9 20 5 25
  let M11 := zal M10 26 (8, 0)
  let M12 := nM_26 M11
  let M13 := zup M12 20 7 26
  let M14 := zfill M13 22 800 (-1)
  M14
set_option maxRecDepth 20000 in
theorem in_o20 (E : zE) (M : zM) : zC E (zNk 21) mX5_init [.inr (.inr 20)] M (fun _ N' M' => N' = zNk 27 ∧ M' = nM_20 M) := by
  refine zC_of (by decide +kernel) rfl (by rw [lg_zl]; exact Nat.le_of_ble_eq_true rfl) ?_
  show zA E (zNk 21) (0, 0) mX5_init 0 [(0, .inr (.inr 20))] [] M _
  refine zr_aload_n (pc' := 1) (i := 0) dX5_init_0 rfl rfl rfl ?_
  refine zr_objInit (pc' := 4) dX5_init_1 rfl (by decide) (zi 1 173 rfl rfl) (zi 1 32 rfl rfl) (zi 1 33 rfl rfl) (by decide) (Nat.le_of_ble_eq_true rfl) ?_
  refine zr_aload_n (pc' := 5) (i := 0) dX5_init_4 rfl rfl rfl ?_
  refine zr_bipush (pc' := 7) dX5_init_5 rfl rfl ?_
  refine zk_newa (k := 21) (k' := 22) (n := 8) (t0 := 0) (cu' := (1, 8)) (pc' := 9) dX5_init_7 rfl rfl rfl rfl (Or.inl ⟨rfl, rfl⟩) (fun _ => rfl) (zi 1 72 rfl rfl) (by decide) rfl (Nat.le_of_ble_eq_true rfl) (Nat.le_of_ble_eq_true rfl) (fun M1 hM1 => ?_)
  refine zr_putF (pc' := 12) (x := 21) dX5_init_9 rfl (by decide) (zNk_kd (k := 22) (a := 20) rfl (by decide)) fl_X5_11 kc_5 rfl rfl rfl rfl rfl trivial (fun M2 hM2 => ?_)
  refine zr_aload_n (pc' := 13) (i := 0) dX5_init_12 rfl rfl rfl ?_
  refine zr_sipush (pc' := 16) dX5_init_13 rfl rfl ?_
  refine zk_newa (k := 22) (k' := 23) (n := 800) (t0 := 0) (cu' := (2, 808)) (pc' := 18) dX5_init_16 rfl rfl rfl rfl (Or.inl ⟨rfl, rfl⟩) (fun _ => rfl) (zi 1 72 rfl rfl) (by decide) rfl (Nat.le_of_ble_eq_true rfl) (Nat.le_of_ble_eq_true rfl) (fun M3 hM3 => ?_)
  refine zr_putF (pc' := 21) (x := 22) dX5_init_18 rfl (by decide) (zNk_kd (k := 23) (a := 20) rfl (by decide)) fl_X5_15 kc_5 rfl rfl rfl rfl rfl trivial (fun M4 hM4 => ?_)
  refine zr_aload_n (pc' := 22) (i := 0) dX5_init_21 rfl rfl rfl ?_
  refine zr_sipush (pc' := 25) dX5_init_22 rfl rfl ?_
  refine zk_newa (k := 23) (k' := 24) (n := 400) (t0 := 0) (cu' := (3, 1208)) (pc' := 27) dX5_init_25 rfl rfl rfl rfl (Or.inl ⟨rfl, rfl⟩) (fun _ => rfl) (zi 1 72 rfl rfl) (by decide) rfl (Nat.le_of_ble_eq_true rfl) (Nat.le_of_ble_eq_true rfl) (fun M5 hM5 => ?_)
  refine zr_putF (pc' := 30) (x := 23) dX5_init_27 rfl (by decide) (zNk_kd (k := 24) (a := 20) rfl (by decide)) fl_X5_18 kc_5 rfl rfl rfl rfl rfl trivial (fun M6 hM6 => ?_)
  refine zr_aload_n (pc' := 31) (i := 0) dX5_init_30 rfl rfl rfl ?_
  refine zr_sipush (pc' := 34) dX5_init_31 rfl rfl ?_
  refine zk_newa (k := 24) (k' := 25) (n := 400) (t0 := 0) (cu' := (4, 1608)) (pc' := 36) dX5_init_34 rfl rfl rfl rfl (Or.inl ⟨rfl, rfl⟩) (fun _ => rfl) (zi 1 72 rfl rfl) (by decide) rfl (Nat.le_of_ble_eq_true rfl) (Nat.le_of_ble_eq_true rfl) (fun M7 hM7 => ?_)
  refine zr_putF (pc' := 39) (x := 24) dX5_init_36 rfl (by decide) (zNk_kd (k := 25) (a := 20) rfl (by decide)) fl_X5_21 kc_5 rfl rfl rfl rfl rfl trivial (fun M8 hM8 => ?_)
  refine zr_aload_n (pc' := 40) (i := 0) dX5_init_39 rfl rfl rfl ?_
  refine zr_sipush (pc' := 43) dX5_init_40 rfl rfl ?_
  refine zk_newa (k := 25) (k' := 26) (n := 400) (t0 := 0) (cu' := (5, 2008)) (pc' := 45) dX5_init_43 rfl rfl rfl rfl (Or.inl ⟨rfl, rfl⟩) (fun _ => rfl) (zi 1 72 rfl rfl) (by decide) rfl (Nat.le_of_ble_eq_true rfl) (Nat.le_of_ble_eq_true rfl) (fun M9 hM9 => ?_)
  refine zr_putF (pc' := 48) (x := 25) dX5_init_45 rfl (by decide) (zNk_kd (k := 26) (a := 20) rfl (by decide)) fl_X5_24 kc_5 rfl rfl rfl rfl rfl trivial (fun M10 hM10 => ?_)
  refine zr_aload_n (pc' := 49) (i := 0) dX5_init_48 rfl rfl rfl ?_
  refine zk_new (k := 26) (k' := 27) (cu' := (6, 2017)) (pc' := 52) dX5_init_49 rfl rfl rfl kc_8 rfl (by decide) (zi 1 174 rfl rfl) in_8 (zi 1 6 rfl rfl) rfl (Nat.le_of_ble_eq_true rfl) (Nat.le_of_ble_eq_true rfl) (fun M11 hM11 => ?_)
  refine zr_dup (pc' := 53) dX5_init_52 rfl rfl ?_
  refine zk_callIN (k := 27) (k' := 27) (f := nM_26) (cu' := (6, 2017)) (pc' := 56) dX5_init_53 rfl ck_X5_29 ⟨rfl, rfl, by decide, by decide⟩ (by decide) (Nat.le_of_ble_eq_true rfl) rfl (Nat.le_of_ble_eq_true rfl) (Nat.le_of_ble_eq_true rfl) rfl (Nat.le_of_ble_eq_true rfl) (in_o26 E _) (fun M12 hM12 => ?_)
  refine zr_putF (pc' := 59) (x := 26) dX5_init_56 rfl (by decide) (zNk_kd (k := 27) (a := 20) rfl (by decide)) fl_X5_30 kc_5 rfl rfl rfl rfl rfl trivial (fun M13 hM13 => ?_)
  refine zr_aload_n (pc' := 60) (i := 0) dX5_init_59 rfl rfl rfl ?_
  refine zr_get (pc' := 63) (v := .inr (.inr 22)) dX5_init_60 rfl (by decide) (zNk_kd (k := 27) (a := 20) rfl (by decide)) fl_X5_15 kc_5 (by subst hM1; subst hM2; subst hM3; subst hM4; subst hM5; subst hM6; subst hM7; subst hM8; subst hM9; subst hM10; subst hM11; subst hM12; subst hM13; rfl) ?_
  refine zr_iconst (pc' := 64) dX5_init_63 rfl ?_
  refine zk_fill (k := 27) (pc' := 67) dX5_init_64 rfl cs_X5_34 ⟨rfl, rfl, by decide, by decide⟩ rfl rfl (Nat.le_of_ble_eq_true rfl) (Nat.le_of_ble_eq_true rfl) (Nat.le_of_ble_eq_true rfl) (c_fill (by decide) (zNk_kd (k := 27) (a := 22) rfl (by decide)) (by decide)) (fun M14 hM14 => ?_)
  refine zr_return (x := 0) dX5_init_67 rfl (Nat.le_of_ble_eq_true rfl) (Nat.le_of_ble_eq_true rfl) ⟨rfl, ?_⟩
  subst hM1
  subst hM2
  subst hM3
  subst hM4
  subst hM5
  subst hM6
  subst hM7
  subst hM8
  subst hM9
  subst hM10
  subst hM11
  subst hM12
  subst hM13
  subst hM14
  rfl
def nM_28 (M : zM) : zM :=
  let M1 := zup M 28 0 4
  let M2 := zup M1 28 1 16
  let M3 := zal M2 29 (100, 64)
  let M4 := zup M3 28 2 29
  let M5 := zal M4 30 (100, 64)
  let M6 := zup M5 28 3 30
  let M7 := zal M6 31 (100, 64)
  let M8 := zup M7 28 4 31
  let M9 := zal M8 32 (100, 6)
  let M10 := zup M9 28 6 32
  M10
set_option maxRecDepth 20000 in
theorem in_o28 (E : zE) (M : zM) : zC E (zNk 29) mX1_init [.inr (.inr 28)] M (fun _ N' M' => N' = zNk 33 ∧ M' = nM_28 M) := by
  refine zC_of (by decide +kernel) rfl (by rw [lg_zl]; exact Nat.le_of_ble_eq_true rfl) ?_
  show zA E (zNk 29) (0, 0) mX1_init 0 [(0, .inr (.inr 28))] [] M _
  refine zr_aload_n (pc' := 1) (i := 0) dX1_init_0 rfl rfl rfl ?_
  refine zr_objInit (pc' := 4) dX1_init_1 rfl (by decide) (zi 2 3 rfl rfl) (zi 1 32 rfl rfl) (zi 1 33 rfl rfl) (by decide) (Nat.le_of_ble_eq_true rfl) ?_
  refine zr_aload_n (pc' := 5) (i := 0) dX1_init_4 rfl rfl rfl ?_
  refine zr_iconst (pc' := 6) dX1_init_5 rfl ?_
  refine zr_put (pc' := 9) (x := 4) dX1_init_6 rfl (by decide) (zNk_kd (k := 29) (a := 28) rfl (by decide)) fl_X1_9 kc_1 rfl rfl rfl trivial (fun M1 hM1 => ?_)
  refine zr_aload_n (pc' := 10) (i := 0) dX1_init_9 rfl rfl rfl ?_
  refine zr_bipush (pc' := 12) dX1_init_10 rfl rfl ?_
  refine zr_put (pc' := 15) (x := 16) dX1_init_12 rfl (by decide) (zNk_kd (k := 29) (a := 28) rfl (by decide)) fl_X1_15 kc_1 rfl rfl rfl trivial (fun M2 hM2 => ?_)
  refine zr_aload_n (pc' := 16) (i := 0) dX1_init_15 rfl rfl rfl ?_
  refine zr_bipush (pc' := 18) dX1_init_16 rfl rfl ?_
  refine zk_newa (k := 29) (k' := 30) (n := 64) (t0 := 0) (cu' := (1, 64)) (pc' := 20) dX1_init_18 rfl rfl rfl rfl (Or.inl ⟨rfl, rfl⟩) (fun _ => rfl) (zi 1 72 rfl rfl) (by decide) rfl (Nat.le_of_ble_eq_true rfl) (Nat.le_of_ble_eq_true rfl) (fun M3 hM3 => ?_)
  refine zr_putF (pc' := 23) (x := 29) dX1_init_20 rfl (by decide) (zNk_kd (k := 30) (a := 28) rfl (by decide)) fl_X1_18 kc_1 rfl rfl rfl rfl rfl trivial (fun M4 hM4 => ?_)
  refine zr_aload_n (pc' := 24) (i := 0) dX1_init_23 rfl rfl rfl ?_
  refine zr_bipush (pc' := 26) dX1_init_24 rfl rfl ?_
  refine zk_newa (k := 30) (k' := 31) (n := 64) (t0 := 0) (cu' := (2, 128)) (pc' := 28) dX1_init_26 rfl rfl rfl rfl (Or.inl ⟨rfl, rfl⟩) (fun _ => rfl) (zi 1 72 rfl rfl) (by decide) rfl (Nat.le_of_ble_eq_true rfl) (Nat.le_of_ble_eq_true rfl) (fun M5 hM5 => ?_)
  refine zr_putF (pc' := 31) (x := 30) dX1_init_28 rfl (by decide) (zNk_kd (k := 31) (a := 28) rfl (by decide)) fl_X1_22 kc_1 rfl rfl rfl rfl rfl trivial (fun M6 hM6 => ?_)
  refine zr_aload_n (pc' := 32) (i := 0) dX1_init_31 rfl rfl rfl ?_
  refine zr_bipush (pc' := 34) dX1_init_32 rfl rfl ?_
  refine zk_newa (k := 31) (k' := 32) (n := 64) (t0 := 0) (cu' := (3, 192)) (pc' := 36) dX1_init_34 rfl rfl rfl rfl (Or.inl ⟨rfl, rfl⟩) (fun _ => rfl) (zi 1 72 rfl rfl) (by decide) rfl (Nat.le_of_ble_eq_true rfl) (Nat.le_of_ble_eq_true rfl) (fun M7 hM7 => ?_)
  refine zr_putF (pc' := 39) (x := 31) dX1_init_36 rfl (by decide) (zNk_kd (k := 32) (a := 28) rfl (by decide)) fl_X1_25 kc_1 rfl rfl rfl rfl rfl trivial (fun M8 hM8 => ?_)
  refine zr_aload_n (pc' := 40) (i := 0) dX1_init_39 rfl rfl rfl ?_
  refine zr_bipush (pc' := 42) dX1_init_40 rfl rfl ?_
  refine zk_newa (k := 32) (k' := 33) (n := 6) (t0 := 0) (cu' := (4, 198)) (pc' := 44) dX1_init_42 rfl rfl rfl rfl (Or.inl ⟨rfl, rfl⟩) (fun _ => rfl) (zi 1 72 rfl rfl) (by decide) rfl (Nat.le_of_ble_eq_true rfl) (Nat.le_of_ble_eq_true rfl) (fun M9 hM9 => ?_)
  refine zr_putF (pc' := 47) (x := 32) dX1_init_44 rfl (by decide) (zNk_kd (k := 33) (a := 28) rfl (by decide)) fl_X1_28 kc_1 rfl rfl rfl rfl rfl trivial (fun M10 hM10 => ?_)
  refine zr_return (x := 0) dX1_init_47 rfl (Nat.le_of_ble_eq_true rfl) (Nat.le_of_ble_eq_true rfl) ⟨rfl, ?_⟩
  subst hM1
  subst hM2
  subst hM3
  subst hM4
  subst hM5
  subst hM6
  subst hM7
  subst hM8
  subst hM9
  subst hM10
  rfl
def nM_35 (M : zM) : zM :=
  let M1 := zal M 36 (100, 832)
  let M2 := zup M1 35 0 36
  let M3 := zal M2 37 (100, 832)
  let M4 := zup M3 35 1 37
  let M5 := zal M4 38 (100, 64)
  let M6 := zup M5 35 2 38
  let M7 := zal M6 39 (100, 64)
  let M8 := zup M7 35 5 39
  let M9 := zal M8 40 (100, 64)
  let M10 := zup M9 35 6 40
  let M11 := zal M10 41 (100, 64)
  let M12 := zup M11 35 7 41
  let M13 := zal M12 42 (100, 202)
  let M14 := zup M13 35 9 42
  let M15 := zal M14 43 (100, 8)
  let M16 := zup M15 35 11 43
  M16
set_option maxRecDepth 20000 in
theorem in_o35 (E : zE) (M : zM) : zC E (zNk 36) mX0_init [.inr (.inr 35)] M (fun _ N' M' => N' = zNk 44 ∧ M' = nM_35 M) := by
  refine zC_of (by decide +kernel) rfl (by rw [lg_zl]; exact Nat.le_of_ble_eq_true rfl) ?_
  show zA E (zNk 36) (0, 0) mX0_init 0 [(0, .inr (.inr 35))] [] M _
  refine zr_aload_n (pc' := 1) (i := 0) dX0_init_0 rfl rfl rfl ?_
  refine zr_objInit (pc' := 4) dX0_init_1 rfl (by decide) (zi 2 45 rfl rfl) (zi 1 32 rfl rfl) (zi 1 33 rfl rfl) (by decide) (Nat.le_of_ble_eq_true rfl) ?_
  refine zr_aload_n (pc' := 5) (i := 0) dX0_init_4 rfl rfl rfl ?_
  refine zr_sipush (pc' := 8) dX0_init_5 rfl rfl ?_
  refine zk_newa (k := 36) (k' := 37) (n := 832) (t0 := 0) (cu' := (1, 832)) (pc' := 10) dX0_init_8 rfl rfl rfl rfl (Or.inl ⟨rfl, rfl⟩) (fun _ => rfl) (zi 1 72 rfl rfl) (by decide) rfl (Nat.le_of_ble_eq_true rfl) (Nat.le_of_ble_eq_true rfl) (fun M1 hM1 => ?_)
  refine zr_putF (pc' := 13) (x := 36) dX0_init_10 rfl (by decide) (zNk_kd (k := 37) (a := 35) rfl (by decide)) fl_X0_13 kc_0 rfl rfl rfl rfl rfl trivial (fun M2 hM2 => ?_)
  refine zr_aload_n (pc' := 14) (i := 0) dX0_init_13 rfl rfl rfl ?_
  refine zr_sipush (pc' := 17) dX0_init_14 rfl rfl ?_
  refine zk_newa (k := 37) (k' := 38) (n := 832) (t0 := 0) (cu' := (2, 1664)) (pc' := 19) dX0_init_17 rfl rfl rfl rfl (Or.inl ⟨rfl, rfl⟩) (fun _ => rfl) (zi 1 72 rfl rfl) (by decide) rfl (Nat.le_of_ble_eq_true rfl) (Nat.le_of_ble_eq_true rfl) (fun M3 hM3 => ?_)
  refine zr_putF (pc' := 22) (x := 37) dX0_init_19 rfl (by decide) (zNk_kd (k := 38) (a := 35) rfl (by decide)) fl_X0_17 kc_0 rfl rfl rfl rfl rfl trivial (fun M4 hM4 => ?_)
  refine zr_aload_n (pc' := 23) (i := 0) dX0_init_22 rfl rfl rfl ?_
  refine zr_bipush (pc' := 25) dX0_init_23 rfl rfl ?_
  refine zk_newa (k := 38) (k' := 39) (n := 64) (t0 := 0) (cu' := (3, 1728)) (pc' := 27) dX0_init_25 rfl rfl rfl rfl (Or.inl ⟨rfl, rfl⟩) (fun _ => rfl) (zi 1 72 rfl rfl) (by decide) rfl (Nat.le_of_ble_eq_true rfl) (Nat.le_of_ble_eq_true rfl) (fun M5 hM5 => ?_)
  refine zr_putF (pc' := 30) (x := 38) dX0_init_27 rfl (by decide) (zNk_kd (k := 39) (a := 35) rfl (by decide)) fl_X0_20 kc_0 rfl rfl rfl rfl rfl trivial (fun M6 hM6 => ?_)
  refine zr_aload_n (pc' := 31) (i := 0) dX0_init_30 rfl rfl rfl ?_
  refine zr_bipush (pc' := 33) dX0_init_31 rfl rfl ?_
  refine zk_newa (k := 39) (k' := 40) (n := 64) (t0 := 0) (cu' := (4, 1792)) (pc' := 35) dX0_init_33 rfl rfl rfl rfl (Or.inl ⟨rfl, rfl⟩) (fun _ => rfl) (zi 1 72 rfl rfl) (by decide) rfl (Nat.le_of_ble_eq_true rfl) (Nat.le_of_ble_eq_true rfl) (fun M7 hM7 => ?_)
  refine zr_putF (pc' := 38) (x := 39) dX0_init_35 rfl (by decide) (zNk_kd (k := 40) (a := 35) rfl (by decide)) fl_X0_23 kc_0 rfl rfl rfl rfl rfl trivial (fun M8 hM8 => ?_)
  refine zr_aload_n (pc' := 39) (i := 0) dX0_init_38 rfl rfl rfl ?_
  refine zr_bipush (pc' := 41) dX0_init_39 rfl rfl ?_
  refine zk_newa (k := 40) (k' := 41) (n := 64) (t0 := 0) (cu' := (5, 1856)) (pc' := 43) dX0_init_41 rfl rfl rfl rfl (Or.inl ⟨rfl, rfl⟩) (fun _ => rfl) (zi 1 72 rfl rfl) (by decide) rfl (Nat.le_of_ble_eq_true rfl) (Nat.le_of_ble_eq_true rfl) (fun M9 hM9 => ?_)
  refine zr_putF (pc' := 46) (x := 40) dX0_init_43 rfl (by decide) (zNk_kd (k := 41) (a := 35) rfl (by decide)) fl_X0_26 kc_0 rfl rfl rfl rfl rfl trivial (fun M10 hM10 => ?_)
  refine zr_aload_n (pc' := 47) (i := 0) dX0_init_46 rfl rfl rfl ?_
  refine zr_bipush (pc' := 49) dX0_init_47 rfl rfl ?_
  refine zk_newa (k := 41) (k' := 42) (n := 64) (t0 := 0) (cu' := (6, 1920)) (pc' := 51) dX0_init_49 rfl rfl rfl rfl (Or.inl ⟨rfl, rfl⟩) (fun _ => rfl) (zi 1 72 rfl rfl) (by decide) rfl (Nat.le_of_ble_eq_true rfl) (Nat.le_of_ble_eq_true rfl) (fun M11 hM11 => ?_)
  refine zr_putF (pc' := 54) (x := 41) dX0_init_51 rfl (by decide) (zNk_kd (k := 42) (a := 35) rfl (by decide)) fl_X0_29 kc_0 rfl rfl rfl rfl rfl trivial (fun M12 hM12 => ?_)
  refine zr_aload_n (pc' := 55) (i := 0) dX0_init_54 rfl rfl rfl ?_
  refine zr_sipush (pc' := 58) dX0_init_55 rfl rfl ?_
  refine zk_newa (k := 42) (k' := 43) (n := 202) (t0 := 0) (cu' := (7, 2122)) (pc' := 60) dX0_init_58 rfl rfl rfl rfl (Or.inl ⟨rfl, rfl⟩) (fun _ => rfl) (zi 1 72 rfl rfl) (by decide) rfl (Nat.le_of_ble_eq_true rfl) (Nat.le_of_ble_eq_true rfl) (fun M13 hM13 => ?_)
  refine zr_putF (pc' := 63) (x := 42) dX0_init_60 rfl (by decide) (zNk_kd (k := 43) (a := 35) rfl (by decide)) fl_X0_34 kc_0 rfl rfl rfl rfl rfl trivial (fun M14 hM14 => ?_)
  refine zr_aload_n (pc' := 64) (i := 0) dX0_init_63 rfl rfl rfl ?_
  refine zr_bipush (pc' := 66) dX0_init_64 rfl rfl ?_
  refine zk_newa (k := 43) (k' := 44) (n := 8) (t0 := 0) (cu' := (8, 2130)) (pc' := 68) dX0_init_66 rfl rfl rfl rfl (Or.inl ⟨rfl, rfl⟩) (fun _ => rfl) (zi 1 72 rfl rfl) (by decide) rfl (Nat.le_of_ble_eq_true rfl) (Nat.le_of_ble_eq_true rfl) (fun M15 hM15 => ?_)
  refine zr_putF (pc' := 71) (x := 43) dX0_init_68 rfl (by decide) (zNk_kd (k := 44) (a := 35) rfl (by decide)) fl_X0_39 kc_0 rfl rfl rfl rfl rfl trivial (fun M16 hM16 => ?_)
  refine zr_return (x := 0) dX0_init_71 rfl (Nat.le_of_ble_eq_true rfl) (Nat.le_of_ble_eq_true rfl) ⟨rfl, ?_⟩
  subst hM1
  subst hM2
  subst hM3
  subst hM4
  subst hM5
  subst hM6
  subst hM7
  subst hM8
  subst hM9
  subst hM10
  subst hM11
  subst hM12
  subst hM13
  subst hM14
  subst hM15
  subst hM16
  rfl
def nM_44 (M : zM) : zM :=
  let M1 := zal M 45 (100, 8)
  let M2 := zup M1 44 0 45
  let M3 := zal M2 46 (100, 8)
  let M4 := zup M3 44 1 46
  let M5 := zal M4 47 (100, 8)
  let M6 := zup M5 44 2 47
  let M7 := zal M6 48 (100, 8)
  let M8 := zup M7 44 3 48
  let M9 := zal M8 49 (100, 8)
  let M10 := zup M9 44 4 49
  let M11 := zal M10 50 (100, 8)
  let M12 := zup M11 44 5 50
  let M13 := zal M12 51 (100, 14)
  let M14 := zup M13 44 7 51
  let M15 := zal M14 52 (100, 14)
  let M16 := zup M15 44 8 52
  let M17 := zal M16 53 (100, 14)
  let M18 := zup M17 44 9 53
  let M19 := zal M18 54 (100, 14)
  let M20 := zup M19 44 10 54
  let M21 := zal M20 55 (100, 14)
  let M22 := zup M21 44 11 55
  let M23 := zal M22 56 (100, 14)
  let M24 := zup M23 44 12 56
  M24
set_option maxRecDepth 20000 in
theorem in_o44 (E : zE) (M : zM) : zC E (zNk 45) mX3_init [.inr (.inr 44)] M (fun _ N' M' => N' = zNk 57 ∧ M' = nM_44 M) := by
  refine zC_of (by decide +kernel) rfl (by rw [lg_zl]; exact Nat.le_of_ble_eq_true rfl) ?_
  show zA E (zNk 45) (0, 0) mX3_init 0 [(0, .inr (.inr 44))] [] M _
  refine zr_aload_n (pc' := 1) (i := 0) dX3_init_0 rfl rfl rfl ?_
  refine zr_objInit (pc' := 4) dX3_init_1 rfl (by decide) (zi 2 94 rfl rfl) (zi 1 32 rfl rfl) (zi 1 33 rfl rfl) (by decide) (Nat.le_of_ble_eq_true rfl) ?_
  refine zr_aload_n (pc' := 5) (i := 0) dX3_init_4 rfl rfl rfl ?_
  refine zr_bipush (pc' := 7) dX3_init_5 rfl rfl ?_
  refine zk_newa (k := 45) (k' := 46) (n := 8) (t0 := 0) (cu' := (1, 8)) (pc' := 9) dX3_init_7 rfl rfl rfl rfl (Or.inl ⟨rfl, rfl⟩) (fun _ => rfl) (zi 1 72 rfl rfl) (by decide) rfl (Nat.le_of_ble_eq_true rfl) (Nat.le_of_ble_eq_true rfl) (fun M1 hM1 => ?_)
  refine zr_putF (pc' := 12) (x := 45) dX3_init_9 rfl (by decide) (zNk_kd (k := 46) (a := 44) rfl (by decide)) fl_X3_11 kc_3 rfl rfl rfl rfl rfl trivial (fun M2 hM2 => ?_)
  refine zr_aload_n (pc' := 13) (i := 0) dX3_init_12 rfl rfl rfl ?_
  refine zr_bipush (pc' := 15) dX3_init_13 rfl rfl ?_
  refine zk_newa (k := 46) (k' := 47) (n := 8) (t0 := 0) (cu' := (2, 16)) (pc' := 17) dX3_init_15 rfl rfl rfl rfl (Or.inl ⟨rfl, rfl⟩) (fun _ => rfl) (zi 1 72 rfl rfl) (by decide) rfl (Nat.le_of_ble_eq_true rfl) (Nat.le_of_ble_eq_true rfl) (fun M3 hM3 => ?_)
  refine zr_putF (pc' := 20) (x := 46) dX3_init_17 rfl (by decide) (zNk_kd (k := 47) (a := 44) rfl (by decide)) fl_X3_15 kc_3 rfl rfl rfl rfl rfl trivial (fun M4 hM4 => ?_)
  refine zr_aload_n (pc' := 21) (i := 0) dX3_init_20 rfl rfl rfl ?_
  refine zr_bipush (pc' := 23) dX3_init_21 rfl rfl ?_
  refine zk_newa (k := 47) (k' := 48) (n := 8) (t0 := 0) (cu' := (3, 24)) (pc' := 25) dX3_init_23 rfl rfl rfl rfl (Or.inl ⟨rfl, rfl⟩) (fun _ => rfl) (zi 1 72 rfl rfl) (by decide) rfl (Nat.le_of_ble_eq_true rfl) (Nat.le_of_ble_eq_true rfl) (fun M5 hM5 => ?_)
  refine zr_putF (pc' := 28) (x := 47) dX3_init_25 rfl (by decide) (zNk_kd (k := 48) (a := 44) rfl (by decide)) fl_X3_18 kc_3 rfl rfl rfl rfl rfl trivial (fun M6 hM6 => ?_)
  refine zr_aload_n (pc' := 29) (i := 0) dX3_init_28 rfl rfl rfl ?_
  refine zr_bipush (pc' := 31) dX3_init_29 rfl rfl ?_
  refine zk_newa (k := 48) (k' := 49) (n := 8) (t0 := 0) (cu' := (4, 32)) (pc' := 33) dX3_init_31 rfl rfl rfl rfl (Or.inl ⟨rfl, rfl⟩) (fun _ => rfl) (zi 1 72 rfl rfl) (by decide) rfl (Nat.le_of_ble_eq_true rfl) (Nat.le_of_ble_eq_true rfl) (fun M7 hM7 => ?_)
  refine zr_putF (pc' := 36) (x := 48) dX3_init_33 rfl (by decide) (zNk_kd (k := 49) (a := 44) rfl (by decide)) fl_X3_21 kc_3 rfl rfl rfl rfl rfl trivial (fun M8 hM8 => ?_)
  refine zr_aload_n (pc' := 37) (i := 0) dX3_init_36 rfl rfl rfl ?_
  refine zr_bipush (pc' := 39) dX3_init_37 rfl rfl ?_
  refine zk_newa (k := 49) (k' := 50) (n := 8) (t0 := 0) (cu' := (5, 40)) (pc' := 41) dX3_init_39 rfl rfl rfl rfl (Or.inl ⟨rfl, rfl⟩) (fun _ => rfl) (zi 1 72 rfl rfl) (by decide) rfl (Nat.le_of_ble_eq_true rfl) (Nat.le_of_ble_eq_true rfl) (fun M9 hM9 => ?_)
  refine zr_putF (pc' := 44) (x := 49) dX3_init_41 rfl (by decide) (zNk_kd (k := 50) (a := 44) rfl (by decide)) fl_X3_24 kc_3 rfl rfl rfl rfl rfl trivial (fun M10 hM10 => ?_)
  refine zr_aload_n (pc' := 45) (i := 0) dX3_init_44 rfl rfl rfl ?_
  refine zr_bipush (pc' := 47) dX3_init_45 rfl rfl ?_
  refine zk_newa (k := 50) (k' := 51) (n := 8) (t0 := 0) (cu' := (6, 48)) (pc' := 49) dX3_init_47 rfl rfl rfl rfl (Or.inl ⟨rfl, rfl⟩) (fun _ => rfl) (zi 1 72 rfl rfl) (by decide) rfl (Nat.le_of_ble_eq_true rfl) (Nat.le_of_ble_eq_true rfl) (fun M11 hM11 => ?_)
  refine zr_putF (pc' := 52) (x := 50) dX3_init_49 rfl (by decide) (zNk_kd (k := 51) (a := 44) rfl (by decide)) fl_X3_27 kc_3 rfl rfl rfl rfl rfl trivial (fun M12 hM12 => ?_)
  refine zr_aload_n (pc' := 53) (i := 0) dX3_init_52 rfl rfl rfl ?_
  refine zr_bipush (pc' := 55) dX3_init_53 rfl rfl ?_
  refine zk_newa (k := 51) (k' := 52) (n := 14) (t0 := 0) (cu' := (7, 62)) (pc' := 57) dX3_init_55 rfl rfl rfl rfl (Or.inl ⟨rfl, rfl⟩) (fun _ => rfl) (zi 1 72 rfl rfl) (by decide) rfl (Nat.le_of_ble_eq_true rfl) (Nat.le_of_ble_eq_true rfl) (fun M13 hM13 => ?_)
  refine zr_putF (pc' := 60) (x := 51) dX3_init_57 rfl (by decide) (zNk_kd (k := 52) (a := 44) rfl (by decide)) fl_X3_30 kc_3 rfl rfl rfl rfl rfl trivial (fun M14 hM14 => ?_)
  refine zr_aload_n (pc' := 61) (i := 0) dX3_init_60 rfl rfl rfl ?_
  refine zr_bipush (pc' := 63) dX3_init_61 rfl rfl ?_
  refine zk_newa (k := 52) (k' := 53) (n := 14) (t0 := 0) (cu' := (8, 76)) (pc' := 65) dX3_init_63 rfl rfl rfl rfl (Or.inl ⟨rfl, rfl⟩) (fun _ => rfl) (zi 1 72 rfl rfl) (by decide) rfl (Nat.le_of_ble_eq_true rfl) (Nat.le_of_ble_eq_true rfl) (fun M15 hM15 => ?_)
  refine zr_putF (pc' := 68) (x := 52) dX3_init_65 rfl (by decide) (zNk_kd (k := 53) (a := 44) rfl (by decide)) fl_X3_33 kc_3 rfl rfl rfl rfl rfl trivial (fun M16 hM16 => ?_)
  refine zr_aload_n (pc' := 69) (i := 0) dX3_init_68 rfl rfl rfl ?_
  refine zr_bipush (pc' := 71) dX3_init_69 rfl rfl ?_
  refine zk_newa (k := 53) (k' := 54) (n := 14) (t0 := 0) (cu' := (9, 90)) (pc' := 73) dX3_init_71 rfl rfl rfl rfl (Or.inl ⟨rfl, rfl⟩) (fun _ => rfl) (zi 1 72 rfl rfl) (by decide) rfl (Nat.le_of_ble_eq_true rfl) (Nat.le_of_ble_eq_true rfl) (fun M17 hM17 => ?_)
  refine zr_putF (pc' := 76) (x := 53) dX3_init_73 rfl (by decide) (zNk_kd (k := 54) (a := 44) rfl (by decide)) fl_X3_36 kc_3 rfl rfl rfl rfl rfl trivial (fun M18 hM18 => ?_)
  refine zr_aload_n (pc' := 77) (i := 0) dX3_init_76 rfl rfl rfl ?_
  refine zr_bipush (pc' := 79) dX3_init_77 rfl rfl ?_
  refine zk_newa (k := 54) (k' := 55) (n := 14) (t0 := 0) (cu' := (10, 104)) (pc' := 81) dX3_init_79 rfl rfl rfl rfl (Or.inl ⟨rfl, rfl⟩) (fun _ => rfl) (zi 1 72 rfl rfl) (by decide) rfl (Nat.le_of_ble_eq_true rfl) (Nat.le_of_ble_eq_true rfl) (fun M19 hM19 => ?_)
  refine zr_putF (pc' := 84) (x := 54) dX3_init_81 rfl (by decide) (zNk_kd (k := 55) (a := 44) rfl (by decide)) fl_X3_39 kc_3 rfl rfl rfl rfl rfl trivial (fun M20 hM20 => ?_)
  refine zr_aload_n (pc' := 85) (i := 0) dX3_init_84 rfl rfl rfl ?_
  refine zr_bipush (pc' := 87) dX3_init_85 rfl rfl ?_
  refine zk_newa (k := 55) (k' := 56) (n := 14) (t0 := 0) (cu' := (11, 118)) (pc' := 89) dX3_init_87 rfl rfl rfl rfl (Or.inl ⟨rfl, rfl⟩) (fun _ => rfl) (zi 1 72 rfl rfl) (by decide) rfl (Nat.le_of_ble_eq_true rfl) (Nat.le_of_ble_eq_true rfl) (fun M21 hM21 => ?_)
  refine zr_putF (pc' := 92) (x := 55) dX3_init_89 rfl (by decide) (zNk_kd (k := 56) (a := 44) rfl (by decide)) fl_X3_42 kc_3 rfl rfl rfl rfl rfl trivial (fun M22 hM22 => ?_)
  refine zr_aload_n (pc' := 93) (i := 0) dX3_init_92 rfl rfl rfl ?_
  refine zr_bipush (pc' := 95) dX3_init_93 rfl rfl ?_
  refine zk_newa (k := 56) (k' := 57) (n := 14) (t0 := 0) (cu' := (12, 132)) (pc' := 97) dX3_init_95 rfl rfl rfl rfl (Or.inl ⟨rfl, rfl⟩) (fun _ => rfl) (zi 1 72 rfl rfl) (by decide) rfl (Nat.le_of_ble_eq_true rfl) (Nat.le_of_ble_eq_true rfl) (fun M23 hM23 => ?_)
  refine zr_putF (pc' := 100) (x := 56) dX3_init_97 rfl (by decide) (zNk_kd (k := 57) (a := 44) rfl (by decide)) fl_X3_45 kc_3 rfl rfl rfl rfl rfl trivial (fun M24 hM24 => ?_)
  refine zr_return (x := 0) dX3_init_100 rfl (Nat.le_of_ble_eq_true rfl) (Nat.le_of_ble_eq_true rfl) ⟨rfl, ?_⟩
  subst hM1
  subst hM2
  subst hM3
  subst hM4
  subst hM5
  subst hM6
  subst hM7
  subst hM8
  subst hM9
  subst hM10
  subst hM11
  subst hM12
  subst hM13
  subst hM14
  subst hM15
  subst hM16
  subst hM17
  subst hM18
  subst hM19
  subst hM20
  subst hM21
  subst hM22
  subst hM23
  subst hM24
  rfl
def nM_57 (M : zM) : zM :=
  let M1 := zal M 58 (100, 202)
  let M2 := zup M1 57 0 58
  let M3 := zal M2 59 (100, 1088)
  let M4 := zup M3 57 1 59
  let M5 := zal M4 60 (100, 1088)
  let M6 := zup M5 57 2 60
  let M7 := zal M6 61 (100, 1088)
  let M8 := zup M7 57 3 61
  let M9 := zal M8 62 (100, 202)
  let M10 := zup M9 57 5 62
  let M11 := zal M10 63 (100, 202)
  let M12 := zup M11 57 6 63
  let M13 := zal M12 64 (100, 202)
  let M14 := zup M13 57 7 64
  let M15 := zal M14 65 (100, 202)
  let M16 := zup M15 57 8 65
  M16
set_option maxRecDepth 20000 in
theorem in_o57 (E : zE) (M : zM) : zC E (zNk 58) mX2_init [.inr (.inr 57)] M (fun _ N' M' => N' = zNk 66 ∧ M' = nM_57 M) := by
  refine zC_of (by decide +kernel) rfl (by rw [lg_zl]; exact Nat.le_of_ble_eq_true rfl) ?_
  show zA E (zNk 58) (0, 0) mX2_init 0 [(0, .inr (.inr 57))] [] M _
  refine zr_aload_n (pc' := 1) (i := 0) dX2_init_0 rfl rfl rfl ?_
  refine zr_objInit (pc' := 4) dX2_init_1 rfl (by decide) (zi 2 157 rfl rfl) (zi 1 32 rfl rfl) (zi 1 33 rfl rfl) (by decide) (Nat.le_of_ble_eq_true rfl) ?_
  refine zr_aload_n (pc' := 5) (i := 0) dX2_init_4 rfl rfl rfl ?_
  refine zr_sipush (pc' := 8) dX2_init_5 rfl rfl ?_
  refine zk_newa (k := 58) (k' := 59) (n := 202) (t0 := 0) (cu' := (1, 202)) (pc' := 10) dX2_init_8 rfl rfl rfl rfl (Or.inl ⟨rfl, rfl⟩) (fun _ => rfl) (zi 1 72 rfl rfl) (by decide) rfl (Nat.le_of_ble_eq_true rfl) (Nat.le_of_ble_eq_true rfl) (fun M1 hM1 => ?_)
  refine zr_putF (pc' := 13) (x := 58) dX2_init_10 rfl (by decide) (zNk_kd (k := 59) (a := 57) rfl (by decide)) fl_X2_15 kc_2 rfl rfl rfl rfl rfl trivial (fun M2 hM2 => ?_)
  refine zr_aload_n (pc' := 14) (i := 0) dX2_init_13 rfl rfl rfl ?_
  refine zr_sipush (pc' := 17) dX2_init_14 rfl rfl ?_
  refine zk_newa (k := 59) (k' := 60) (n := 1088) (t0 := 0) (cu' := (2, 1290)) (pc' := 19) dX2_init_17 rfl rfl rfl rfl (Or.inl ⟨rfl, rfl⟩) (fun _ => rfl) (zi 1 72 rfl rfl) (by decide) rfl (Nat.le_of_ble_eq_true rfl) (Nat.le_of_ble_eq_true rfl) (fun M3 hM3 => ?_)
  refine zr_putF (pc' := 22) (x := 59) dX2_init_19 rfl (by decide) (zNk_kd (k := 60) (a := 57) rfl (by decide)) fl_X2_19 kc_2 rfl rfl rfl rfl rfl trivial (fun M4 hM4 => ?_)
  refine zr_aload_n (pc' := 23) (i := 0) dX2_init_22 rfl rfl rfl ?_
  refine zr_sipush (pc' := 26) dX2_init_23 rfl rfl ?_
  refine zk_newa (k := 60) (k' := 61) (n := 1088) (t0 := 0) (cu' := (3, 2378)) (pc' := 28) dX2_init_26 rfl rfl rfl rfl (Or.inl ⟨rfl, rfl⟩) (fun _ => rfl) (zi 1 72 rfl rfl) (by decide) rfl (Nat.le_of_ble_eq_true rfl) (Nat.le_of_ble_eq_true rfl) (fun M5 hM5 => ?_)
  refine zr_putF (pc' := 31) (x := 60) dX2_init_28 rfl (by decide) (zNk_kd (k := 61) (a := 57) rfl (by decide)) fl_X2_22 kc_2 rfl rfl rfl rfl rfl trivial (fun M6 hM6 => ?_)
  refine zr_aload_n (pc' := 32) (i := 0) dX2_init_31 rfl rfl rfl ?_
  refine zr_sipush (pc' := 35) dX2_init_32 rfl rfl ?_
  refine zk_newa (k := 61) (k' := 62) (n := 1088) (t0 := 0) (cu' := (4, 3466)) (pc' := 37) dX2_init_35 rfl rfl rfl rfl (Or.inl ⟨rfl, rfl⟩) (fun _ => rfl) (zi 1 72 rfl rfl) (by decide) rfl (Nat.le_of_ble_eq_true rfl) (Nat.le_of_ble_eq_true rfl) (fun M7 hM7 => ?_)
  refine zr_putF (pc' := 40) (x := 61) dX2_init_37 rfl (by decide) (zNk_kd (k := 62) (a := 57) rfl (by decide)) fl_X2_25 kc_2 rfl rfl rfl rfl rfl trivial (fun M8 hM8 => ?_)
  refine zr_aload_n (pc' := 41) (i := 0) dX2_init_40 rfl rfl rfl ?_
  refine zr_sipush (pc' := 44) dX2_init_41 rfl rfl ?_
  refine zk_newa (k := 62) (k' := 63) (n := 202) (t0 := 0) (cu' := (5, 3668)) (pc' := 46) dX2_init_44 rfl rfl rfl rfl (Or.inl ⟨rfl, rfl⟩) (fun _ => rfl) (zi 1 72 rfl rfl) (by decide) rfl (Nat.le_of_ble_eq_true rfl) (Nat.le_of_ble_eq_true rfl) (fun M9 hM9 => ?_)
  refine zr_putF (pc' := 49) (x := 62) dX2_init_46 rfl (by decide) (zNk_kd (k := 63) (a := 57) rfl (by decide)) fl_X2_28 kc_2 rfl rfl rfl rfl rfl trivial (fun M10 hM10 => ?_)
  refine zr_aload_n (pc' := 50) (i := 0) dX2_init_49 rfl rfl rfl ?_
  refine zr_sipush (pc' := 53) dX2_init_50 rfl rfl ?_
  refine zk_newa (k := 63) (k' := 64) (n := 202) (t0 := 0) (cu' := (6, 3870)) (pc' := 55) dX2_init_53 rfl rfl rfl rfl (Or.inl ⟨rfl, rfl⟩) (fun _ => rfl) (zi 1 72 rfl rfl) (by decide) rfl (Nat.le_of_ble_eq_true rfl) (Nat.le_of_ble_eq_true rfl) (fun M11 hM11 => ?_)
  refine zr_putF (pc' := 58) (x := 63) dX2_init_55 rfl (by decide) (zNk_kd (k := 64) (a := 57) rfl (by decide)) fl_X2_31 kc_2 rfl rfl rfl rfl rfl trivial (fun M12 hM12 => ?_)
  refine zr_aload_n (pc' := 59) (i := 0) dX2_init_58 rfl rfl rfl ?_
  refine zr_sipush (pc' := 62) dX2_init_59 rfl rfl ?_
  refine zk_newa (k := 64) (k' := 65) (n := 202) (t0 := 0) (cu' := (7, 4072)) (pc' := 64) dX2_init_62 rfl rfl rfl rfl (Or.inl ⟨rfl, rfl⟩) (fun _ => rfl) (zi 1 72 rfl rfl) (by decide) rfl (Nat.le_of_ble_eq_true rfl) (Nat.le_of_ble_eq_true rfl) (fun M13 hM13 => ?_)
  refine zr_putF (pc' := 67) (x := 64) dX2_init_64 rfl (by decide) (zNk_kd (k := 65) (a := 57) rfl (by decide)) fl_X2_34 kc_2 rfl rfl rfl rfl rfl trivial (fun M14 hM14 => ?_)
  refine zr_aload_n (pc' := 68) (i := 0) dX2_init_67 rfl rfl rfl ?_
  refine zr_sipush (pc' := 71) dX2_init_68 rfl rfl ?_
  refine zk_newa (k := 65) (k' := 66) (n := 202) (t0 := 0) (cu' := (8, 4274)) (pc' := 73) dX2_init_71 rfl rfl rfl rfl (Or.inl ⟨rfl, rfl⟩) (fun _ => rfl) (zi 1 72 rfl rfl) (by decide) rfl (Nat.le_of_ble_eq_true rfl) (Nat.le_of_ble_eq_true rfl) (fun M15 hM15 => ?_)
  refine zr_putF (pc' := 76) (x := 65) dX2_init_73 rfl (by decide) (zNk_kd (k := 66) (a := 57) rfl (by decide)) fl_X2_37 kc_2 rfl rfl rfl rfl rfl trivial (fun M16 hM16 => ?_)
  refine zr_return (x := 0) dX2_init_76 rfl (Nat.le_of_ble_eq_true rfl) (Nat.le_of_ble_eq_true rfl) ⟨rfl, ?_⟩
  subst hM1
  subst hM2
  subst hM3
  subst hM4
  subst hM5
  subst hM6
  subst hM7
  subst hM8
  subst hM9
  subst hM10
  subst hM11
  subst hM12
  subst hM13
  subst hM14
  subst hM15
  subst hM16
  rfl
def nM_69 (M : zM) : zM := M
set_option maxRecDepth 20000 in
theorem in_o69 (E : zE) (M : zM) : zC E (zNk 70) mX10_init [.inr (.inr 69)] M (fun _ N' M' => N' = zNk 70 ∧ M' = nM_69 M) := by
  refine zC_of (by decide +kernel) rfl (by rw [lg_zl]; exact Nat.le_of_ble_eq_true rfl) ?_
  show zA E (zNk 70) (0, 0) mX10_init 0 [(0, .inr (.inr 69))] [] M _
  refine zr_aload_n (pc' := 1) (i := 0) dX10_init_0 rfl rfl rfl ?_
  refine zr_objInit (pc' := 4) dX10_init_1 rfl (by decide) (zi 2 192 rfl rfl) (zi 1 32 rfl rfl) (zi 1 33 rfl rfl) (by decide) (Nat.le_of_ble_eq_true rfl) ?_
  refine zr_return (x := 0) dX10_init_4 rfl (Nat.le_of_ble_eq_true rfl) (Nat.le_of_ble_eq_true rfl) ⟨rfl, ?_⟩
  rfl
def nM_70 (M : zM) : zM :=
  let M1 := zal M 71 (100, 832)
  let M2 := zup M1 70 0 71
  let M3 := zal M2 72 (100, 832)
  let M4 := zup M3 70 1 72
  let M5 := zal M4 73 (100, 64)
  let M6 := zup M5 70 2 73
  let M7 := zal M6 74 (100, 64)
  let M8 := zup M7 70 5 74
  let M9 := zal M8 75 (100, 64)
  let M10 := zup M9 70 6 75
  let M11 := zal M10 76 (100, 64)
  let M12 := zup M11 70 7 76
  let M13 := zal M12 77 (100, 202)
  let M14 := zup M13 70 9 77
  let M15 := zal M14 78 (100, 8)
  let M16 := zup M15 70 11 78
  M16
set_option maxRecDepth 20000 in
theorem in_o70 (E : zE) (M : zM) : zC E (zNk 71) mX0_init [.inr (.inr 70)] M (fun _ N' M' => N' = zNk 79 ∧ M' = nM_70 M) := by
  refine zC_of (by decide +kernel) rfl (by rw [lg_zl]; exact Nat.le_of_ble_eq_true rfl) ?_
  show zA E (zNk 71) (0, 0) mX0_init 0 [(0, .inr (.inr 70))] [] M _
  refine zr_aload_n (pc' := 1) (i := 0) dX0_init_0 rfl rfl rfl ?_
  refine zr_objInit (pc' := 4) dX0_init_1 rfl (by decide) (zi 2 45 rfl rfl) (zi 1 32 rfl rfl) (zi 1 33 rfl rfl) (by decide) (Nat.le_of_ble_eq_true rfl) ?_
  refine zr_aload_n (pc' := 5) (i := 0) dX0_init_4 rfl rfl rfl ?_
  refine zr_sipush (pc' := 8) dX0_init_5 rfl rfl ?_
  refine zk_newa (k := 71) (k' := 72) (n := 832) (t0 := 0) (cu' := (1, 832)) (pc' := 10) dX0_init_8 rfl rfl rfl rfl (Or.inl ⟨rfl, rfl⟩) (fun _ => rfl) (zi 1 72 rfl rfl) (by decide) rfl (Nat.le_of_ble_eq_true rfl) (Nat.le_of_ble_eq_true rfl) (fun M1 hM1 => ?_)
  refine zr_putF (pc' := 13) (x := 71) dX0_init_10 rfl (by decide) (zNk_kd (k := 72) (a := 70) rfl (by decide)) fl_X0_13 kc_0 rfl rfl rfl rfl rfl trivial (fun M2 hM2 => ?_)
  refine zr_aload_n (pc' := 14) (i := 0) dX0_init_13 rfl rfl rfl ?_
  refine zr_sipush (pc' := 17) dX0_init_14 rfl rfl ?_
  refine zk_newa (k := 72) (k' := 73) (n := 832) (t0 := 0) (cu' := (2, 1664)) (pc' := 19) dX0_init_17 rfl rfl rfl rfl (Or.inl ⟨rfl, rfl⟩) (fun _ => rfl) (zi 1 72 rfl rfl) (by decide) rfl (Nat.le_of_ble_eq_true rfl) (Nat.le_of_ble_eq_true rfl) (fun M3 hM3 => ?_)
  refine zr_putF (pc' := 22) (x := 72) dX0_init_19 rfl (by decide) (zNk_kd (k := 73) (a := 70) rfl (by decide)) fl_X0_17 kc_0 rfl rfl rfl rfl rfl trivial (fun M4 hM4 => ?_)
  refine zr_aload_n (pc' := 23) (i := 0) dX0_init_22 rfl rfl rfl ?_
  refine zr_bipush (pc' := 25) dX0_init_23 rfl rfl ?_
  refine zk_newa (k := 73) (k' := 74) (n := 64) (t0 := 0) (cu' := (3, 1728)) (pc' := 27) dX0_init_25 rfl rfl rfl rfl (Or.inl ⟨rfl, rfl⟩) (fun _ => rfl) (zi 1 72 rfl rfl) (by decide) rfl (Nat.le_of_ble_eq_true rfl) (Nat.le_of_ble_eq_true rfl) (fun M5 hM5 => ?_)
  refine zr_putF (pc' := 30) (x := 73) dX0_init_27 rfl (by decide) (zNk_kd (k := 74) (a := 70) rfl (by decide)) fl_X0_20 kc_0 rfl rfl rfl rfl rfl trivial (fun M6 hM6 => ?_)
  refine zr_aload_n (pc' := 31) (i := 0) dX0_init_30 rfl rfl rfl ?_
  refine zr_bipush (pc' := 33) dX0_init_31 rfl rfl ?_
  refine zk_newa (k := 74) (k' := 75) (n := 64) (t0 := 0) (cu' := (4, 1792)) (pc' := 35) dX0_init_33 rfl rfl rfl rfl (Or.inl ⟨rfl, rfl⟩) (fun _ => rfl) (zi 1 72 rfl rfl) (by decide) rfl (Nat.le_of_ble_eq_true rfl) (Nat.le_of_ble_eq_true rfl) (fun M7 hM7 => ?_)
  refine zr_putF (pc' := 38) (x := 74) dX0_init_35 rfl (by decide) (zNk_kd (k := 75) (a := 70) rfl (by decide)) fl_X0_23 kc_0 rfl rfl rfl rfl rfl trivial (fun M8 hM8 => ?_)
  refine zr_aload_n (pc' := 39) (i := 0) dX0_init_38 rfl rfl rfl ?_
  refine zr_bipush (pc' := 41) dX0_init_39 rfl rfl ?_
  refine zk_newa (k := 75) (k' := 76) (n := 64) (t0 := 0) (cu' := (5, 1856)) (pc' := 43) dX0_init_41 rfl rfl rfl rfl (Or.inl ⟨rfl, rfl⟩) (fun _ => rfl) (zi 1 72 rfl rfl) (by decide) rfl (Nat.le_of_ble_eq_true rfl) (Nat.le_of_ble_eq_true rfl) (fun M9 hM9 => ?_)
  refine zr_putF (pc' := 46) (x := 75) dX0_init_43 rfl (by decide) (zNk_kd (k := 76) (a := 70) rfl (by decide)) fl_X0_26 kc_0 rfl rfl rfl rfl rfl trivial (fun M10 hM10 => ?_)
  refine zr_aload_n (pc' := 47) (i := 0) dX0_init_46 rfl rfl rfl ?_
  refine zr_bipush (pc' := 49) dX0_init_47 rfl rfl ?_
  refine zk_newa (k := 76) (k' := 77) (n := 64) (t0 := 0) (cu' := (6, 1920)) (pc' := 51) dX0_init_49 rfl rfl rfl rfl (Or.inl ⟨rfl, rfl⟩) (fun _ => rfl) (zi 1 72 rfl rfl) (by decide) rfl (Nat.le_of_ble_eq_true rfl) (Nat.le_of_ble_eq_true rfl) (fun M11 hM11 => ?_)
  refine zr_putF (pc' := 54) (x := 76) dX0_init_51 rfl (by decide) (zNk_kd (k := 77) (a := 70) rfl (by decide)) fl_X0_29 kc_0 rfl rfl rfl rfl rfl trivial (fun M12 hM12 => ?_)
  refine zr_aload_n (pc' := 55) (i := 0) dX0_init_54 rfl rfl rfl ?_
  refine zr_sipush (pc' := 58) dX0_init_55 rfl rfl ?_
  refine zk_newa (k := 77) (k' := 78) (n := 202) (t0 := 0) (cu' := (7, 2122)) (pc' := 60) dX0_init_58 rfl rfl rfl rfl (Or.inl ⟨rfl, rfl⟩) (fun _ => rfl) (zi 1 72 rfl rfl) (by decide) rfl (Nat.le_of_ble_eq_true rfl) (Nat.le_of_ble_eq_true rfl) (fun M13 hM13 => ?_)
  refine zr_putF (pc' := 63) (x := 77) dX0_init_60 rfl (by decide) (zNk_kd (k := 78) (a := 70) rfl (by decide)) fl_X0_34 kc_0 rfl rfl rfl rfl rfl trivial (fun M14 hM14 => ?_)
  refine zr_aload_n (pc' := 64) (i := 0) dX0_init_63 rfl rfl rfl ?_
  refine zr_bipush (pc' := 66) dX0_init_64 rfl rfl ?_
  refine zk_newa (k := 78) (k' := 79) (n := 8) (t0 := 0) (cu' := (8, 2130)) (pc' := 68) dX0_init_66 rfl rfl rfl rfl (Or.inl ⟨rfl, rfl⟩) (fun _ => rfl) (zi 1 72 rfl rfl) (by decide) rfl (Nat.le_of_ble_eq_true rfl) (Nat.le_of_ble_eq_true rfl) (fun M15 hM15 => ?_)
  refine zr_putF (pc' := 71) (x := 78) dX0_init_68 rfl (by decide) (zNk_kd (k := 79) (a := 70) rfl (by decide)) fl_X0_39 kc_0 rfl rfl rfl rfl rfl trivial (fun M16 hM16 => ?_)
  refine zr_return (x := 0) dX0_init_71 rfl (Nat.le_of_ble_eq_true rfl) (Nat.le_of_ble_eq_true rfl) ⟨rfl, ?_⟩
  subst hM1
  subst hM2
  subst hM3
  subst hM4
  subst hM5
  subst hM6
  subst hM7
  subst hM8
  subst hM9
  subst hM10
  subst hM11
  subst hM12
  subst hM13
  subst hM14
  subst hM15
  subst hM16
  rfl
def nM_79 (M : zM) : zM := M
set_option maxRecDepth 20000 in
theorem in_o79 (E : zE) (M : zM) : zC E (zNk 80) mX10_init [.inr (.inr 79)] M (fun _ N' M' => N' = zNk 80 ∧ M' = nM_79 M) := by
  refine zC_of (by decide +kernel) rfl (by rw [lg_zl]; exact Nat.le_of_ble_eq_true rfl) ?_
  show zA E (zNk 80) (0, 0) mX10_init 0 [(0, .inr (.inr 79))] [] M _
  refine zr_aload_n (pc' := 1) (i := 0) dX10_init_0 rfl rfl rfl ?_
  refine zr_objInit (pc' := 4) dX10_init_1 rfl (by decide) (zi 2 192 rfl rfl) (zi 1 32 rfl rfl) (zi 1 33 rfl rfl) (by decide) (Nat.le_of_ble_eq_true rfl) ?_
  refine zr_return (x := 0) dX10_init_4 rfl (Nat.le_of_ble_eq_true rfl) (Nat.le_of_ble_eq_true rfl) ⟨rfl, ?_⟩
  rfl
def nM_80 (M : zM) : zM :=
  let M1 := zal M 81 (100, 832)
  let M2 := zup M1 80 0 81
  let M3 := zal M2 82 (100, 832)
  let M4 := zup M3 80 1 82
  let M5 := zal M4 83 (100, 64)
  let M6 := zup M5 80 2 83
  let M7 := zal M6 84 (100, 64)
  let M8 := zup M7 80 5 84
  let M9 := zal M8 85 (100, 64)
  let M10 := zup M9 80 6 85
  let M11 := zal M10 86 (100, 64)
  let M12 := zup M11 80 7 86
  let M13 := zal M12 87 (100, 202)
  let M14 := zup M13 80 9 87
  let M15 := zal M14 88 (100, 8)
  let M16 := zup M15 80 11 88
  M16
set_option maxRecDepth 20000 in
theorem in_o80 (E : zE) (M : zM) : zC E (zNk 81) mX0_init [.inr (.inr 80)] M (fun _ N' M' => N' = zNk 89 ∧ M' = nM_80 M) := by
  refine zC_of (by decide +kernel) rfl (by rw [lg_zl]; exact Nat.le_of_ble_eq_true rfl) ?_
  show zA E (zNk 81) (0, 0) mX0_init 0 [(0, .inr (.inr 80))] [] M _
  refine zr_aload_n (pc' := 1) (i := 0) dX0_init_0 rfl rfl rfl ?_
  refine zr_objInit (pc' := 4) dX0_init_1 rfl (by decide) (zi 2 45 rfl rfl) (zi 1 32 rfl rfl) (zi 1 33 rfl rfl) (by decide) (Nat.le_of_ble_eq_true rfl) ?_
  refine zr_aload_n (pc' := 5) (i := 0) dX0_init_4 rfl rfl rfl ?_
  refine zr_sipush (pc' := 8) dX0_init_5 rfl rfl ?_
  refine zk_newa (k := 81) (k' := 82) (n := 832) (t0 := 0) (cu' := (1, 832)) (pc' := 10) dX0_init_8 rfl rfl rfl rfl (Or.inl ⟨rfl, rfl⟩) (fun _ => rfl) (zi 1 72 rfl rfl) (by decide) rfl (Nat.le_of_ble_eq_true rfl) (Nat.le_of_ble_eq_true rfl) (fun M1 hM1 => ?_)
  refine zr_putF (pc' := 13) (x := 81) dX0_init_10 rfl (by decide) (zNk_kd (k := 82) (a := 80) rfl (by decide)) fl_X0_13 kc_0 rfl rfl rfl rfl rfl trivial (fun M2 hM2 => ?_)
  refine zr_aload_n (pc' := 14) (i := 0) dX0_init_13 rfl rfl rfl ?_
  refine zr_sipush (pc' := 17) dX0_init_14 rfl rfl ?_
  refine zk_newa (k := 82) (k' := 83) (n := 832) (t0 := 0) (cu' := (2, 1664)) (pc' := 19) dX0_init_17 rfl rfl rfl rfl (Or.inl ⟨rfl, rfl⟩) (fun _ => rfl) (zi 1 72 rfl rfl) (by decide) rfl (Nat.le_of_ble_eq_true rfl) (Nat.le_of_ble_eq_true rfl) (fun M3 hM3 => ?_)
  refine zr_putF (pc' := 22) (x := 82) dX0_init_19 rfl (by decide) (zNk_kd (k := 83) (a := 80) rfl (by decide)) fl_X0_17 kc_0 rfl rfl rfl rfl rfl trivial (fun M4 hM4 => ?_)
  refine zr_aload_n (pc' := 23) (i := 0) dX0_init_22 rfl rfl rfl ?_
  refine zr_bipush (pc' := 25) dX0_init_23 rfl rfl ?_
  refine zk_newa (k := 83) (k' := 84) (n := 64) (t0 := 0) (cu' := (3, 1728)) (pc' := 27) dX0_init_25 rfl rfl rfl rfl (Or.inl ⟨rfl, rfl⟩) (fun _ => rfl) (zi 1 72 rfl rfl) (by decide) rfl (Nat.le_of_ble_eq_true rfl) (Nat.le_of_ble_eq_true rfl) (fun M5 hM5 => ?_)
  refine zr_putF (pc' := 30) (x := 83) dX0_init_27 rfl (by decide) (zNk_kd (k := 84) (a := 80) rfl (by decide)) fl_X0_20 kc_0 rfl rfl rfl rfl rfl trivial (fun M6 hM6 => ?_)
  refine zr_aload_n (pc' := 31) (i := 0) dX0_init_30 rfl rfl rfl ?_
  refine zr_bipush (pc' := 33) dX0_init_31 rfl rfl ?_
  refine zk_newa (k := 84) (k' := 85) (n := 64) (t0 := 0) (cu' := (4, 1792)) (pc' := 35) dX0_init_33 rfl rfl rfl rfl (Or.inl ⟨rfl, rfl⟩) (fun _ => rfl) (zi 1 72 rfl rfl) (by decide) rfl (Nat.le_of_ble_eq_true rfl) (Nat.le_of_ble_eq_true rfl) (fun M7 hM7 => ?_)
  refine zr_putF (pc' := 38) (x := 84) dX0_init_35 rfl (by decide) (zNk_kd (k := 85) (a := 80) rfl (by decide)) fl_X0_23 kc_0 rfl rfl rfl rfl rfl trivial (fun M8 hM8 => ?_)
  refine zr_aload_n (pc' := 39) (i := 0) dX0_init_38 rfl rfl rfl ?_
  refine zr_bipush (pc' := 41) dX0_init_39 rfl rfl ?_
  refine zk_newa (k := 85) (k' := 86) (n := 64) (t0 := 0) (cu' := (5, 1856)) (pc' := 43) dX0_init_41 rfl rfl rfl rfl (Or.inl ⟨rfl, rfl⟩) (fun _ => rfl) (zi 1 72 rfl rfl) (by decide) rfl (Nat.le_of_ble_eq_true rfl) (Nat.le_of_ble_eq_true rfl) (fun M9 hM9 => ?_)
  refine zr_putF (pc' := 46) (x := 85) dX0_init_43 rfl (by decide) (zNk_kd (k := 86) (a := 80) rfl (by decide)) fl_X0_26 kc_0 rfl rfl rfl rfl rfl trivial (fun M10 hM10 => ?_)
  refine zr_aload_n (pc' := 47) (i := 0) dX0_init_46 rfl rfl rfl ?_
  refine zr_bipush (pc' := 49) dX0_init_47 rfl rfl ?_
  refine zk_newa (k := 86) (k' := 87) (n := 64) (t0 := 0) (cu' := (6, 1920)) (pc' := 51) dX0_init_49 rfl rfl rfl rfl (Or.inl ⟨rfl, rfl⟩) (fun _ => rfl) (zi 1 72 rfl rfl) (by decide) rfl (Nat.le_of_ble_eq_true rfl) (Nat.le_of_ble_eq_true rfl) (fun M11 hM11 => ?_)
  refine zr_putF (pc' := 54) (x := 86) dX0_init_51 rfl (by decide) (zNk_kd (k := 87) (a := 80) rfl (by decide)) fl_X0_29 kc_0 rfl rfl rfl rfl rfl trivial (fun M12 hM12 => ?_)
  refine zr_aload_n (pc' := 55) (i := 0) dX0_init_54 rfl rfl rfl ?_
  refine zr_sipush (pc' := 58) dX0_init_55 rfl rfl ?_
  refine zk_newa (k := 87) (k' := 88) (n := 202) (t0 := 0) (cu' := (7, 2122)) (pc' := 60) dX0_init_58 rfl rfl rfl rfl (Or.inl ⟨rfl, rfl⟩) (fun _ => rfl) (zi 1 72 rfl rfl) (by decide) rfl (Nat.le_of_ble_eq_true rfl) (Nat.le_of_ble_eq_true rfl) (fun M13 hM13 => ?_)
  refine zr_putF (pc' := 63) (x := 87) dX0_init_60 rfl (by decide) (zNk_kd (k := 88) (a := 80) rfl (by decide)) fl_X0_34 kc_0 rfl rfl rfl rfl rfl trivial (fun M14 hM14 => ?_)
  refine zr_aload_n (pc' := 64) (i := 0) dX0_init_63 rfl rfl rfl ?_
  refine zr_bipush (pc' := 66) dX0_init_64 rfl rfl ?_
  refine zk_newa (k := 88) (k' := 89) (n := 8) (t0 := 0) (cu' := (8, 2130)) (pc' := 68) dX0_init_66 rfl rfl rfl rfl (Or.inl ⟨rfl, rfl⟩) (fun _ => rfl) (zi 1 72 rfl rfl) (by decide) rfl (Nat.le_of_ble_eq_true rfl) (Nat.le_of_ble_eq_true rfl) (fun M15 hM15 => ?_)
  refine zr_putF (pc' := 71) (x := 88) dX0_init_68 rfl (by decide) (zNk_kd (k := 89) (a := 80) rfl (by decide)) fl_X0_39 kc_0 rfl rfl rfl rfl rfl trivial (fun M16 hM16 => ?_)
  refine zr_return (x := 0) dX0_init_71 rfl (Nat.le_of_ble_eq_true rfl) (Nat.le_of_ble_eq_true rfl) ⟨rfl, ?_⟩
  subst hM1
  subst hM2
  subst hM3
  subst hM4
  subst hM5
  subst hM6
  subst hM7
  subst hM8
  subst hM9
  subst hM10
  subst hM11
  subst hM12
  subst hM13
  subst hM14
  subst hM15
  subst hM16
  rfl
def nM_89 (M : zM) : zM := M
set_option maxRecDepth 20000 in
theorem in_o89 (E : zE) (M : zM) : zC E (zNk 90) mX10_init [.inr (.inr 89)] M (fun _ N' M' => N' = zNk 90 ∧ M' = nM_89 M) := by
  refine zC_of (by decide +kernel) rfl (by rw [lg_zl]; exact Nat.le_of_ble_eq_true rfl) ?_
  show zA E (zNk 90) (0, 0) mX10_init 0 [(0, .inr (.inr 89))] [] M _
  refine zr_aload_n (pc' := 1) (i := 0) dX10_init_0 rfl rfl rfl ?_
  refine zr_objInit (pc' := 4) dX10_init_1 rfl (by decide) (zi 2 192 rfl rfl) (zi 1 32 rfl rfl) (zi 1 33 rfl rfl) (by decide) (Nat.le_of_ble_eq_true rfl) ?_
  refine zr_return (x := 0) dX10_init_4 rfl (Nat.le_of_ble_eq_true rfl) (Nat.le_of_ble_eq_true rfl) ⟨rfl, ?_⟩
  rfl
def nM_90 (M : zM) : zM :=
  let M1 := zal M 91 (100, 832)
  let M2 := zup M1 90 0 91
  let M3 := zal M2 92 (100, 832)
  let M4 := zup M3 90 1 92
  let M5 := zal M4 93 (100, 64)
  let M6 := zup M5 90 2 93
  let M7 := zal M6 94 (100, 64)
  let M8 := zup M7 90 5 94
  let M9 := zal M8 95 (100, 64)
  let M10 := zup M9 90 6 95
  let M11 := zal M10 96 (100, 64)
  let M12 := zup M11 90 7 96
  let M13 := zal M12 97 (100, 202)
  let M14 := zup M13 90 9 97
  let M15 := zal M14 98 (100, 8)
  let M16 := zup M15 90 11 98
  M16
set_option maxRecDepth 20000 in
theorem in_o90 (E : zE) (M : zM) : zC E (zNk 91) mX0_init [.inr (.inr 90)] M (fun _ N' M' => N' = zNk 99 ∧ M' = nM_90 M) := by
  refine zC_of (by decide +kernel) rfl (by rw [lg_zl]; exact Nat.le_of_ble_eq_true rfl) ?_
  show zA E (zNk 91) (0, 0) mX0_init 0 [(0, .inr (.inr 90))] [] M _
  refine zr_aload_n (pc' := 1) (i := 0) dX0_init_0 rfl rfl rfl ?_
  refine zr_objInit (pc' := 4) dX0_init_1 rfl (by decide) (zi 2 45 rfl rfl) (zi 1 32 rfl rfl) (zi 1 33 rfl rfl) (by decide) (Nat.le_of_ble_eq_true rfl) ?_
  refine zr_aload_n (pc' := 5) (i := 0) dX0_init_4 rfl rfl rfl ?_
  refine zr_sipush (pc' := 8) dX0_init_5 rfl rfl ?_
  refine zk_newa (k := 91) (k' := 92) (n := 832) (t0 := 0) (cu' := (1, 832)) (pc' := 10) dX0_init_8 rfl rfl rfl rfl (Or.inl ⟨rfl, rfl⟩) (fun _ => rfl) (zi 1 72 rfl rfl) (by decide) rfl (Nat.le_of_ble_eq_true rfl) (Nat.le_of_ble_eq_true rfl) (fun M1 hM1 => ?_)
  refine zr_putF (pc' := 13) (x := 91) dX0_init_10 rfl (by decide) (zNk_kd (k := 92) (a := 90) rfl (by decide)) fl_X0_13 kc_0 rfl rfl rfl rfl rfl trivial (fun M2 hM2 => ?_)
  refine zr_aload_n (pc' := 14) (i := 0) dX0_init_13 rfl rfl rfl ?_
  refine zr_sipush (pc' := 17) dX0_init_14 rfl rfl ?_
  refine zk_newa (k := 92) (k' := 93) (n := 832) (t0 := 0) (cu' := (2, 1664)) (pc' := 19) dX0_init_17 rfl rfl rfl rfl (Or.inl ⟨rfl, rfl⟩) (fun _ => rfl) (zi 1 72 rfl rfl) (by decide) rfl (Nat.le_of_ble_eq_true rfl) (Nat.le_of_ble_eq_true rfl) (fun M3 hM3 => ?_)
  refine zr_putF (pc' := 22) (x := 92) dX0_init_19 rfl (by decide) (zNk_kd (k := 93) (a := 90) rfl (by decide)) fl_X0_17 kc_0 rfl rfl rfl rfl rfl trivial (fun M4 hM4 => ?_)
  refine zr_aload_n (pc' := 23) (i := 0) dX0_init_22 rfl rfl rfl ?_
  refine zr_bipush (pc' := 25) dX0_init_23 rfl rfl ?_
  refine zk_newa (k := 93) (k' := 94) (n := 64) (t0 := 0) (cu' := (3, 1728)) (pc' := 27) dX0_init_25 rfl rfl rfl rfl (Or.inl ⟨rfl, rfl⟩) (fun _ => rfl) (zi 1 72 rfl rfl) (by decide) rfl (Nat.le_of_ble_eq_true rfl) (Nat.le_of_ble_eq_true rfl) (fun M5 hM5 => ?_)
  refine zr_putF (pc' := 30) (x := 93) dX0_init_27 rfl (by decide) (zNk_kd (k := 94) (a := 90) rfl (by decide)) fl_X0_20 kc_0 rfl rfl rfl rfl rfl trivial (fun M6 hM6 => ?_)
  refine zr_aload_n (pc' := 31) (i := 0) dX0_init_30 rfl rfl rfl ?_
  refine zr_bipush (pc' := 33) dX0_init_31 rfl rfl ?_
  refine zk_newa (k := 94) (k' := 95) (n := 64) (t0 := 0) (cu' := (4, 1792)) (pc' := 35) dX0_init_33 rfl rfl rfl rfl (Or.inl ⟨rfl, rfl⟩) (fun _ => rfl) (zi 1 72 rfl rfl) (by decide) rfl (Nat.le_of_ble_eq_true rfl) (Nat.le_of_ble_eq_true rfl) (fun M7 hM7 => ?_)
  refine zr_putF (pc' := 38) (x := 94) dX0_init_35 rfl (by decide) (zNk_kd (k := 95) (a := 90) rfl (by decide)) fl_X0_23 kc_0 rfl rfl rfl rfl rfl trivial (fun M8 hM8 => ?_)
  refine zr_aload_n (pc' := 39) (i := 0) dX0_init_38 rfl rfl rfl ?_
  refine zr_bipush (pc' := 41) dX0_init_39 rfl rfl ?_
  refine zk_newa (k := 95) (k' := 96) (n := 64) (t0 := 0) (cu' := (5, 1856)) (pc' := 43) dX0_init_41 rfl rfl rfl rfl (Or.inl ⟨rfl, rfl⟩) (fun _ => rfl) (zi 1 72 rfl rfl) (by decide) rfl (Nat.le_of_ble_eq_true rfl) (Nat.le_of_ble_eq_true rfl) (fun M9 hM9 => ?_)
  refine zr_putF (pc' := 46) (x := 95) dX0_init_43 rfl (by decide) (zNk_kd (k := 96) (a := 90) rfl (by decide)) fl_X0_26 kc_0 rfl rfl rfl rfl rfl trivial (fun M10 hM10 => ?_)
  refine zr_aload_n (pc' := 47) (i := 0) dX0_init_46 rfl rfl rfl ?_
  refine zr_bipush (pc' := 49) dX0_init_47 rfl rfl ?_
  refine zk_newa (k := 96) (k' := 97) (n := 64) (t0 := 0) (cu' := (6, 1920)) (pc' := 51) dX0_init_49 rfl rfl rfl rfl (Or.inl ⟨rfl, rfl⟩) (fun _ => rfl) (zi 1 72 rfl rfl) (by decide) rfl (Nat.le_of_ble_eq_true rfl) (Nat.le_of_ble_eq_true rfl) (fun M11 hM11 => ?_)
  refine zr_putF (pc' := 54) (x := 96) dX0_init_51 rfl (by decide) (zNk_kd (k := 97) (a := 90) rfl (by decide)) fl_X0_29 kc_0 rfl rfl rfl rfl rfl trivial (fun M12 hM12 => ?_)
  refine zr_aload_n (pc' := 55) (i := 0) dX0_init_54 rfl rfl rfl ?_
  refine zr_sipush (pc' := 58) dX0_init_55 rfl rfl ?_
  refine zk_newa (k := 97) (k' := 98) (n := 202) (t0 := 0) (cu' := (7, 2122)) (pc' := 60) dX0_init_58 rfl rfl rfl rfl (Or.inl ⟨rfl, rfl⟩) (fun _ => rfl) (zi 1 72 rfl rfl) (by decide) rfl (Nat.le_of_ble_eq_true rfl) (Nat.le_of_ble_eq_true rfl) (fun M13 hM13 => ?_)
  refine zr_putF (pc' := 63) (x := 97) dX0_init_60 rfl (by decide) (zNk_kd (k := 98) (a := 90) rfl (by decide)) fl_X0_34 kc_0 rfl rfl rfl rfl rfl trivial (fun M14 hM14 => ?_)
  refine zr_aload_n (pc' := 64) (i := 0) dX0_init_63 rfl rfl rfl ?_
  refine zr_bipush (pc' := 66) dX0_init_64 rfl rfl ?_
  refine zk_newa (k := 98) (k' := 99) (n := 8) (t0 := 0) (cu' := (8, 2130)) (pc' := 68) dX0_init_66 rfl rfl rfl rfl (Or.inl ⟨rfl, rfl⟩) (fun _ => rfl) (zi 1 72 rfl rfl) (by decide) rfl (Nat.le_of_ble_eq_true rfl) (Nat.le_of_ble_eq_true rfl) (fun M15 hM15 => ?_)
  refine zr_putF (pc' := 71) (x := 98) dX0_init_68 rfl (by decide) (zNk_kd (k := 99) (a := 90) rfl (by decide)) fl_X0_39 kc_0 rfl rfl rfl rfl rfl trivial (fun M16 hM16 => ?_)
  refine zr_return (x := 0) dX0_init_71 rfl (Nat.le_of_ble_eq_true rfl) (Nat.le_of_ble_eq_true rfl) ⟨rfl, ?_⟩
  subst hM1
  subst hM2
  subst hM3
  subst hM4
  subst hM5
  subst hM6
  subst hM7
  subst hM8
  subst hM9
  subst hM10
  subst hM11
  subst hM12
  subst hM13
  subst hM14
  subst hM15
  subst hM16
  rfl
def nM_99 (M : zM) : zM := M
set_option maxRecDepth 20000 in
theorem in_o99 (E : zE) (M : zM) : zC E (zNk 100) mX4_init [.inr (.inr 99)] M (fun _ N' M' => N' = zNk 100 ∧ M' = nM_99 M) := by
  refine zC_of (by decide +kernel) rfl (by rw [lg_zl]; exact Nat.le_of_ble_eq_true rfl) ?_
  show zA E (zNk 100) (0, 0) mX4_init 0 [(0, .inr (.inr 99))] [] M _
  refine zr_aload_n (pc' := 1) (i := 0) dX4_init_0 rfl rfl rfl ?_
  refine zr_objInit (pc' := 4) dX4_init_1 rfl (by decide) (zi 2 218 rfl rfl) (zi 1 32 rfl rfl) (zi 1 33 rfl rfl) (by decide) (Nat.le_of_ble_eq_true rfl) ?_
  refine zr_return (x := 0) dX4_init_4 rfl (Nat.le_of_ble_eq_true rfl) (Nat.le_of_ble_eq_true rfl) ⟨rfl, ?_⟩
  rfl
def nM_100 (M : zM) : zM := M
set_option maxRecDepth 20000 in
theorem in_o100 (E : zE) (M : zM) : zC E (zNk 101) mX4_init [.inr (.inr 100)] M (fun _ N' M' => N' = zNk 101 ∧ M' = nM_100 M) := by
  refine zC_of (by decide +kernel) rfl (by rw [lg_zl]; exact Nat.le_of_ble_eq_true rfl) ?_
  show zA E (zNk 101) (0, 0) mX4_init 0 [(0, .inr (.inr 100))] [] M _
  refine zr_aload_n (pc' := 1) (i := 0) dX4_init_0 rfl rfl rfl ?_
  refine zr_objInit (pc' := 4) dX4_init_1 rfl (by decide) (zi 2 218 rfl rfl) (zi 1 32 rfl rfl) (zi 1 33 rfl rfl) (by decide) (Nat.le_of_ble_eq_true rfl) ?_
  refine zr_return (x := 0) dX4_init_4 rfl (Nat.le_of_ble_eq_true rfl) (Nat.le_of_ble_eq_true rfl) ⟨rfl, ?_⟩
  rfl
def nM_101 (M : zM) : zM := M
set_option maxRecDepth 20000 in
theorem in_o101 (E : zE) (M : zM) : zC E (zNk 102) mX4_init [.inr (.inr 101)] M (fun _ N' M' => N' = zNk 102 ∧ M' = nM_101 M) := by
  refine zC_of (by decide +kernel) rfl (by rw [lg_zl]; exact Nat.le_of_ble_eq_true rfl) ?_
  show zA E (zNk 102) (0, 0) mX4_init 0 [(0, .inr (.inr 101))] [] M _
  refine zr_aload_n (pc' := 1) (i := 0) dX4_init_0 rfl rfl rfl ?_
  refine zr_objInit (pc' := 4) dX4_init_1 rfl (by decide) (zi 2 218 rfl rfl) (zi 1 32 rfl rfl) (zi 1 33 rfl rfl) (by decide) (Nat.le_of_ble_eq_true rfl) ?_
  refine zr_return (x := 0) dX4_init_4 rfl (Nat.le_of_ble_eq_true rfl) (Nat.le_of_ble_eq_true rfl) ⟨rfl, ?_⟩
  rfl
def nM_0 (M : zM) : zM :=
  let M1 := zal M 1 (7, 0)
  let M2 := nM_1 M1
  let M3 := zup M2 0 1 1
  let M4 := zal M3 6 (6, 0)
  let M5 := nM_6 M4
  let M6 := zup M5 0 2 6
  let M7 := zal M6 13 (6, 0)
  let M8 := nM_13 M7
  let M9 := zup M8 0 3 13
  let M10 := zal M9 20 (5, 0)
  let M11 := nM_20 M10
  let M12 := zup M11 0 4 20
  let M13 := zal M12 27 (100, 100)
  let M14 := zup M13 0 5 27
  let M15 := zal M14 28 (1, 0)
  let M16 := nM_28 M15
  let M17 := zup M16 0 8 28
  let M18 := zal M17 33 (113, 3)
  let M19 := zup M18 0 9 33
  let M20 := zal M19 34 (103, 3)
  let M21 := zup M20 0 10 34
  let M22 := zal M21 35 (0, 0)
  let M23 := nM_35 M22
  let M24 := zup M23 0 12 35
  let M25 := zal M24 44 (3, 0)
  let M26 := nM_44 M25
  let M27 := zup M26 0 13 44
  let M28 := zal M27 57 (2, 0)
  let M29 := nM_57 M28
  let M30 := zup M29 0 14 57
  let M31 := zal M30 66 (107, 3)
  let M32 := zup M31 0 15 66
  let M33 := zal M32 67 (100, 124)
  let M34 := zup M33 0 16 67
  let M35 := zal M34 68 (100, 124)
  let M36 := zup M35 0 17 68
  let M37 := zal M36 69 (10, 0)
  let M38 := nM_69 M37
  let M39 := zup M38 33 0 69
  let M40 := zal M39 70 (0, 0)
  let M41 := nM_70 M40
  let M42 := zup M41 34 0 70
  let M43 := zal M42 79 (10, 0)
  let M44 := nM_79 M43
  let M45 := zup M44 33 1 79
  let M46 := zal M45 80 (0, 0)
  let M47 := nM_80 M46
  let M48 := zup M47 34 1 80
  let M49 := zal M48 89 (10, 0)
  let M50 := nM_89 M49
  let M51 := zup M50 33 2 89
  let M52 := zal M51 90 (0, 0)
  let M53 := nM_90 M52
  let M54 := zup M53 34 2 90
  let M55 := zal M54 99 (4, 0)
  let M56 := nM_99 M55
  let M57 := zup M56 66 0 99
  let M58 := zal M57 100 (4, 0)
  let M59 := nM_100 M58
  let M60 := zup M59 66 1 100
  let M61 := zal M60 101 (4, 0)
  let M62 := nM_101 M61
  let M63 := zup M62 66 2 101
  M63
set_option maxRecDepth 20000 in
theorem in_o0 (E : zE) (M : zM) : zC E (zNk 1) mX11_init [.inr (.inr 0)] M (fun _ N' M' => N' = zNk 102 ∧ M' = nM_0 M) := by
  refine zC_of (by decide +kernel) rfl (by rw [lg_zl]; exact Nat.le_of_ble_eq_true rfl) ?_
  show zA E (zNk 1) (0, 0) mX11_init 0 [(0, .inr (.inr 0))] [] M _
  refine zr_aload_n (pc' := 1) (i := 0) dX11_init_0 rfl rfl rfl ?_
  refine zr_objInit (pc' := 4) dX11_init_1 rfl (by decide) (zi 1 31 rfl rfl) (zi 1 32 rfl rfl) (zi 1 33 rfl rfl) (by decide) (Nat.le_of_ble_eq_true rfl) ?_
  refine zr_aload_n (pc' := 5) (i := 0) dX11_init_4 rfl rfl rfl ?_
  refine zk_new (k := 1) (k' := 2) (cu' := (1, 13)) (pc' := 8) dX11_init_5 rfl rfl rfl kc_7 rfl (by decide) (zi 1 34 rfl rfl) in_7 (zi 1 2 rfl rfl) rfl (Nat.le_of_ble_eq_true rfl) (Nat.le_of_ble_eq_true rfl) (fun M1 hM1 => ?_)
  refine zr_dup (pc' := 9) dX11_init_8 rfl rfl ?_
  refine zk_callIN (k := 2) (k' := 6) (f := nM_1) (cu' := (5, 601)) (pc' := 12) dX11_init_9 rfl ck_X11_9 ⟨rfl, rfl, by decide, by decide⟩ (by decide) (Nat.le_of_ble_eq_true rfl) rfl (Nat.le_of_ble_eq_true rfl) (Nat.le_of_ble_eq_true rfl) rfl (Nat.le_of_ble_eq_true rfl) (in_o1 E _) (fun M2 hM2 => ?_)
  refine zr_putF (pc' := 15) (x := 1) dX11_init_12 rfl (by decide) (zNk_kd (k := 6) (a := 0) rfl (by decide)) fl_X11_10 kc_11 rfl rfl rfl rfl rfl trivial (fun M3 hM3 => ?_)
  refine zr_aload_n (pc' := 16) (i := 0) dX11_init_15 rfl rfl rfl ?_
  refine zk_new (k := 6) (k' := 7) (cu' := (6, 613)) (pc' := 19) dX11_init_16 rfl rfl rfl kc_6 rfl (by decide) (zi 1 117 rfl rfl) in_6 (zi 1 4 rfl rfl) rfl (Nat.le_of_ble_eq_true rfl) (Nat.le_of_ble_eq_true rfl) (fun M4 hM4 => ?_)
  refine zr_dup (pc' := 20) dX11_init_19 rfl rfl ?_
  refine zk_callIN (k := 7) (k' := 13) (f := nM_6) (cu' := (12, 893)) (pc' := 23) dX11_init_20 rfl ck_X11_18 ⟨rfl, rfl, by decide, by decide⟩ (by decide) (Nat.le_of_ble_eq_true rfl) rfl (Nat.le_of_ble_eq_true rfl) (Nat.le_of_ble_eq_true rfl) rfl (Nat.le_of_ble_eq_true rfl) (in_o6 E _) (fun M5 hM5 => ?_)
  refine zr_put (pc' := 26) (x := 6) dX11_init_23 rfl (by decide) (zNk_kd (k := 13) (a := 0) rfl (by decide)) fl_X11_19 kc_11 rfl rfl rfl trivial (fun M6 hM6 => ?_)
  refine zr_aload_n (pc' := 27) (i := 0) dX11_init_26 rfl rfl rfl ?_
  refine zk_new (k := 13) (k' := 14) (cu' := (13, 905)) (pc' := 30) dX11_init_27 rfl rfl rfl kc_6 rfl (by decide) (zi 1 117 rfl rfl) in_6 (zi 1 4 rfl rfl) rfl (Nat.le_of_ble_eq_true rfl) (Nat.le_of_ble_eq_true rfl) (fun M7 hM7 => ?_)
  refine zr_dup (pc' := 31) dX11_init_30 rfl rfl ?_
  refine zk_callIN (k := 14) (k' := 20) (f := nM_13) (cu' := (19, 1185)) (pc' := 34) dX11_init_31 rfl ck_X11_18 ⟨rfl, rfl, by decide, by decide⟩ (by decide) (Nat.le_of_ble_eq_true rfl) rfl (Nat.le_of_ble_eq_true rfl) (Nat.le_of_ble_eq_true rfl) rfl (Nat.le_of_ble_eq_true rfl) (in_o13 E _) (fun M8 hM8 => ?_)
  refine zr_put (pc' := 37) (x := 13) dX11_init_34 rfl (by decide) (zNk_kd (k := 20) (a := 0) rfl (by decide)) fl_X11_23 kc_11 rfl rfl rfl trivial (fun M9 hM9 => ?_)
  refine zr_aload_n (pc' := 38) (i := 0) dX11_init_37 rfl rfl rfl ?_
  refine zk_new (k := 20) (k' := 21) (cu' := (20, 1193)) (pc' := 41) dX11_init_38 rfl rfl rfl kc_5 rfl (by decide) (zi 1 168 rfl rfl) in_5 (zi 1 5 rfl rfl) rfl (Nat.le_of_ble_eq_true rfl) (Nat.le_of_ble_eq_true rfl) (fun M10 hM10 => ?_)
  refine zr_dup (pc' := 42) dX11_init_41 rfl rfl ?_
  refine zk_callI (k := 21) (k' := 27) (f := nM_20) (cu' := (26, 3210)) (pc' := 45) dX11_init_42 rfl ck_X11_28 ⟨rfl, rfl, by decide, by decide⟩ (by decide) (Nat.le_of_ble_eq_true rfl) rfl (Nat.le_of_ble_eq_true rfl) (Nat.le_of_ble_eq_true rfl) rfl (Nat.le_of_ble_eq_true rfl) (in_o20 E _) (fun M11 hM11 => ?_)
  refine zr_putF (pc' := 48) (x := 20) dX11_init_45 rfl (by decide) (zNk_kd (k := 27) (a := 0) rfl (by decide)) fl_X11_29 kc_11 rfl rfl rfl rfl rfl trivial (fun M12 hM12 => ?_)
  refine zr_aload_n (pc' := 49) (i := 0) dX11_init_48 rfl rfl rfl ?_
  refine zr_bipush (pc' := 51) dX11_init_49 rfl rfl ?_
  refine zk_newa (k := 27) (k' := 28) (n := 100) (t0 := 0) (cu' := (27, 3310)) (pc' := 53) dX11_init_51 rfl rfl rfl rfl (Or.inl ⟨rfl, rfl⟩) (fun _ => rfl) (zi 1 72 rfl rfl) (by decide) rfl (Nat.le_of_ble_eq_true rfl) (Nat.le_of_ble_eq_true rfl) (fun M13 hM13 => ?_)
  refine zr_putF (pc' := 56) (x := 27) dX11_init_53 rfl (by decide) (zNk_kd (k := 28) (a := 0) rfl (by decide)) fl_X11_33 kc_11 rfl rfl rfl rfl rfl trivial (fun M14 hM14 => ?_)
  refine zr_aload_n (pc' := 57) (i := 0) dX11_init_56 rfl rfl rfl ?_
  refine zk_new (k := 28) (k' := 29) (cu' := (28, 3318)) (pc' := 60) dX11_init_57 rfl rfl rfl kc_1 rfl (by decide) (zi 1 238 rfl rfl) in_1 (zi 1 8 rfl rfl) rfl (Nat.le_of_ble_eq_true rfl) (Nat.le_of_ble_eq_true rfl) (fun M15 hM15 => ?_)
  refine zr_dup (pc' := 61) dX11_init_60 rfl rfl ?_
  refine zk_callIN (k := 29) (k' := 33) (f := nM_28) (cu' := (32, 3516)) (pc' := 64) dX11_init_61 rfl ck_X11_39 ⟨rfl, rfl, by decide, by decide⟩ (by decide) (Nat.le_of_ble_eq_true rfl) rfl (Nat.le_of_ble_eq_true rfl) (Nat.le_of_ble_eq_true rfl) rfl (Nat.le_of_ble_eq_true rfl) (in_o28 E _) (fun M16 hM16 => ?_)
  refine zr_putF (pc' := 67) (x := 28) dX11_init_64 rfl (by decide) (zNk_kd (k := 33) (a := 0) rfl (by decide)) fl_X11_40 kc_11 rfl rfl rfl rfl rfl trivial (fun M17 hM17 => ?_)
  refine zr_aload_n (pc' := 68) (i := 0) dX11_init_67 rfl rfl rfl ?_
  refine zr_iconst (pc' := 69) dX11_init_68 rfl ?_
  refine zk_newq (k := 33) (k' := 34) (n := 3) (t0 := 5) (cu' := (33, 3519)) (pc' := 72) dX11_init_69 rfl rfl rfl (by decide) (fun _ => rfl) (zi 2 37 rfl rfl) (by decide) (by decide) rfl (Nat.le_of_ble_eq_true rfl) (Nat.le_of_ble_eq_true rfl) (fun M18 hM18 => ?_)
  refine zr_putF (pc' := 75) (x := 33) dX11_init_72 rfl (by decide) (zNk_kd (k := 34) (a := 0) rfl (by decide)) fl_X11_46 kc_11 rfl rfl rfl rfl rfl trivial (fun M19 hM19 => ?_)
  refine zr_aload_n (pc' := 76) (i := 0) dX11_init_75 rfl rfl rfl ?_
  refine zr_iconst (pc' := 77) dX11_init_76 rfl ?_
  refine zk_newq (k := 34) (k' := 35) (n := 3) (t0 := 3) (cu' := (34, 3522)) (pc' := 80) dX11_init_77 rfl rfl rfl (by decide) (fun _ => rfl) (zi 2 39 rfl rfl) (by decide) (by decide) rfl (Nat.le_of_ble_eq_true rfl) (Nat.le_of_ble_eq_true rfl) (fun M20 hM20 => ?_)
  refine zr_putF (pc' := 83) (x := 34) dX11_init_80 rfl (by decide) (zNk_kd (k := 35) (a := 0) rfl (by decide)) fl_X11_52 kc_11 rfl rfl rfl rfl rfl trivial (fun M21 hM21 => ?_)
  refine zr_aload_n (pc' := 84) (i := 0) dX11_init_83 rfl rfl rfl ?_
  refine zk_new (k := 35) (k' := 36) (cu' := (35, 3534)) (pc' := 87) dX11_init_84 rfl rfl rfl kc_0 rfl (by decide) (zi 2 39 rfl rfl) in_0 (zi 1 9 rfl rfl) rfl (Nat.le_of_ble_eq_true rfl) (Nat.le_of_ble_eq_true rfl) (fun M22 hM22 => ?_)
  refine zr_dup (pc' := 88) dX11_init_87 rfl rfl ?_
  refine zk_callIN (k := 36) (k' := 44) (f := nM_35) (cu' := (43, 5664)) (pc' := 91) dX11_init_88 rfl ck_X11_56 ⟨rfl, rfl, by decide, by decide⟩ (by decide) (Nat.le_of_ble_eq_true rfl) rfl (Nat.le_of_ble_eq_true rfl) (Nat.le_of_ble_eq_true rfl) rfl (Nat.le_of_ble_eq_true rfl) (in_o35 E _) (fun M23 hM23 => ?_)
  refine zr_putF (pc' := 94) (x := 35) dX11_init_91 rfl (by decide) (zNk_kd (k := 44) (a := 0) rfl (by decide)) fl_X11_57 kc_11 rfl rfl rfl rfl rfl trivial (fun M24 hM24 => ?_)
  refine zr_aload_n (pc' := 95) (i := 0) dX11_init_94 rfl rfl rfl ?_
  refine zk_new (k := 44) (k' := 45) (cu' := (44, 5678)) (pc' := 98) dX11_init_95 rfl rfl rfl kc_3 rfl (by decide) (zi 2 89 rfl rfl) in_3 (zi 1 10 rfl rfl) rfl (Nat.le_of_ble_eq_true rfl) (Nat.le_of_ble_eq_true rfl) (fun M25 hM25 => ?_)
  refine zr_dup (pc' := 99) dX11_init_98 rfl rfl ?_
  refine zk_callIN (k := 45) (k' := 57) (f := nM_44) (cu' := (56, 5810)) (pc' := 102) dX11_init_99 rfl ck_X11_63 ⟨rfl, rfl, by decide, by decide⟩ (by decide) (Nat.le_of_ble_eq_true rfl) rfl (Nat.le_of_ble_eq_true rfl) (Nat.le_of_ble_eq_true rfl) rfl (Nat.le_of_ble_eq_true rfl) (in_o44 E _) (fun M26 hM26 => ?_)
  refine zr_putF (pc' := 105) (x := 44) dX11_init_102 rfl (by decide) (zNk_kd (k := 57) (a := 0) rfl (by decide)) fl_X11_64 kc_11 rfl rfl rfl rfl rfl trivial (fun M27 hM27 => ?_)
  refine zr_aload_n (pc' := 106) (i := 0) dX11_init_105 rfl rfl rfl ?_
  refine zk_new (k := 57) (k' := 58) (cu' := (57, 5819)) (pc' := 109) dX11_init_106 rfl rfl rfl kc_2 rfl (by decide) (zi 2 152 rfl rfl) in_2 (zi 1 11 rfl rfl) rfl (Nat.le_of_ble_eq_true rfl) (Nat.le_of_ble_eq_true rfl) (fun M28 hM28 => ?_)
  refine zr_dup (pc' := 110) dX11_init_109 rfl rfl ?_
  refine zk_callIN (k := 58) (k' := 66) (f := nM_57) (cu' := (65, 10093)) (pc' := 113) dX11_init_110 rfl ck_X11_70 ⟨rfl, rfl, by decide, by decide⟩ (by decide) (Nat.le_of_ble_eq_true rfl) rfl (Nat.le_of_ble_eq_true rfl) (Nat.le_of_ble_eq_true rfl) rfl (Nat.le_of_ble_eq_true rfl) (in_o57 E _) (fun M29 hM29 => ?_)
  refine zr_putF (pc' := 116) (x := 57) dX11_init_113 rfl (by decide) (zNk_kd (k := 66) (a := 0) rfl (by decide)) fl_X11_71 kc_11 rfl rfl rfl rfl rfl trivial (fun M30 hM30 => ?_)
  refine zr_aload_n (pc' := 117) (i := 0) dX11_init_116 rfl rfl rfl ?_
  refine zr_iconst (pc' := 118) dX11_init_117 rfl ?_
  refine zk_newq (k := 66) (k' := 67) (n := 3) (t0 := 4) (cu' := (66, 10096)) (pc' := 121) dX11_init_118 rfl rfl rfl (by decide) (fun _ => rfl) (zi 2 186 rfl rfl) (by decide) (by decide) rfl (Nat.le_of_ble_eq_true rfl) (Nat.le_of_ble_eq_true rfl) (fun M31 hM31 => ?_)
  refine zr_putF (pc' := 124) (x := 66) dX11_init_121 rfl (by decide) (zNk_kd (k := 67) (a := 0) rfl (by decide)) fl_X11_77 kc_11 rfl rfl rfl rfl rfl trivial (fun M32 hM32 => ?_)
  refine zr_aload_n (pc' := 125) (i := 0) dX11_init_124 rfl rfl rfl ?_
  refine zr_bipush (pc' := 127) dX11_init_125 rfl rfl ?_
  refine zk_newa (k := 67) (k' := 68) (n := 124) (t0 := 0) (cu' := (67, 10220)) (pc' := 129) dX11_init_127 rfl rfl rfl rfl (Or.inl ⟨rfl, rfl⟩) (fun _ => rfl) (zi 1 72 rfl rfl) (by decide) rfl (Nat.le_of_ble_eq_true rfl) (Nat.le_of_ble_eq_true rfl) (fun M33 hM33 => ?_)
  refine zr_putF (pc' := 132) (x := 67) dX11_init_129 rfl (by decide) (zNk_kd (k := 68) (a := 0) rfl (by decide)) fl_X11_81 kc_11 rfl rfl rfl rfl rfl trivial (fun M34 hM34 => ?_)
  refine zr_aload_n (pc' := 133) (i := 0) dX11_init_132 rfl rfl rfl ?_
  refine zr_bipush (pc' := 135) dX11_init_133 rfl rfl ?_
  refine zk_newa (k := 68) (k' := 69) (n := 124) (t0 := 0) (cu' := (68, 10344)) (pc' := 137) dX11_init_135 rfl rfl rfl rfl (Or.inl ⟨rfl, rfl⟩) (fun _ => rfl) (zi 1 72 rfl rfl) (by decide) rfl (Nat.le_of_ble_eq_true rfl) (Nat.le_of_ble_eq_true rfl) (fun M35 hM35 => ?_)
  refine zr_putF (pc' := 140) (x := 68) dX11_init_137 rfl (by decide) (zNk_kd (k := 69) (a := 0) rfl (by decide)) fl_X11_84 kc_11 rfl rfl rfl rfl rfl trivial (fun M36 hM36 => ?_)
  refine zr_iconst (pc' := 141) dX11_init_140 rfl ?_
  refine zr_istore_n (pc' := 142) (i := 1) (al' := [(1, .inl 0), (0, .inr (.inr 0))]) dX11_init_141 rfl rfl (by decide) rfl ?_
  refine zr_iload_n (pc' := 143) (i := 1) dX11_init_142 rfl rfl rfl ?_
  refine zr_iconst (pc' := 144) dX11_init_143 rfl ?_
  refine zr_icmp_ge (tgt := 179) (pc' := 147) dX11_init_144 rfl rfl (zRd rfl) (zRd rfl) (fun hc => absurd hc (by decide)) (fun _ => ?_)
  refine zr_aload_n (pc' := 148) (i := 0) dX11_init_147 rfl rfl rfl ?_
  refine zr_get (pc' := 151) (v := .inr (.inr 33)) dX11_init_148 rfl (by decide) (zNk_kd (k := 69) (a := 0) rfl (by decide)) fl_X11_46 kc_11 (by subst hM1; subst hM2; subst hM3; subst hM4; subst hM5; subst hM6; subst hM7; subst hM8; subst hM9; subst hM10; subst hM11; subst hM12; subst hM13; subst hM14; subst hM15; subst hM16; subst hM17; subst hM18; subst hM19; subst hM20; subst hM21; subst hM22; subst hM23; subst hM24; subst hM25; subst hM26; subst hM27; subst hM28; subst hM29; subst hM30; subst hM31; subst hM32; subst hM33; subst hM34; subst hM35; subst hM36; rfl) ?_
  refine zr_iload_n (pc' := 152) (i := 1) dX11_init_151 rfl rfl rfl ?_
  refine zk_new (k := 69) (k' := 70) (cu' := (69, 10349)) (pc' := 155) dX11_init_152 rfl rfl rfl kc_10 rfl (by decide) (zi 2 37 rfl rfl) in_10 (zi 1 12 rfl rfl) rfl (Nat.le_of_ble_eq_true rfl) (Nat.le_of_ble_eq_true rfl) (fun M37 hM37 => ?_)
  refine zr_dup (pc' := 156) dX11_init_155 rfl rfl ?_
  refine zk_callIN (k := 70) (k' := 70) (f := nM_69) (cu' := (69, 10349)) (pc' := 159) dX11_init_156 rfl ck_X11_87 ⟨rfl, rfl, by decide, by decide⟩ (by decide) (Nat.le_of_ble_eq_true rfl) rfl (Nat.le_of_ble_eq_true rfl) (Nat.le_of_ble_eq_true rfl) rfl (Nat.le_of_ble_eq_true rfl) (in_o69 E _) (fun M38 hM38 => ?_)
  refine zr_aast (pc' := 160) (t0 := 5) dX11_init_159 rfl (by decide) (zNk_kd (k := 70) (a := 33) rfl (by decide)) (by decide) (fun _ => rfl) (by decide) (zNk_kd (k := 70) (a := 69) rfl (by decide)) (by decide) rfl (by decide) (by decide) (by decide) (fun M39 hM39 => ?_)
  refine zr_aload_n (pc' := 161) (i := 0) dX11_init_160 rfl rfl rfl ?_
  refine zr_get (pc' := 164) (v := .inr (.inr 34)) dX11_init_161 rfl (by decide) (zNk_kd (k := 70) (a := 0) rfl (by decide)) fl_X11_52 kc_11 (by subst hM1; subst hM2; subst hM3; subst hM4; subst hM5; subst hM6; subst hM7; subst hM8; subst hM9; subst hM10; subst hM11; subst hM12; subst hM13; subst hM14; subst hM15; subst hM16; subst hM17; subst hM18; subst hM19; subst hM20; subst hM21; subst hM22; subst hM23; subst hM24; subst hM25; subst hM26; subst hM27; subst hM28; subst hM29; subst hM30; subst hM31; subst hM32; subst hM33; subst hM34; subst hM35; subst hM36; subst hM37; subst hM38; subst hM39; rfl) ?_
  refine zr_iload_n (pc' := 165) (i := 1) dX11_init_164 rfl rfl rfl ?_
  refine zk_new (k := 70) (k' := 71) (cu' := (70, 10361)) (pc' := 168) dX11_init_165 rfl rfl rfl kc_0 rfl (by decide) (zi 2 39 rfl rfl) in_0 (zi 1 9 rfl rfl) rfl (Nat.le_of_ble_eq_true rfl) (Nat.le_of_ble_eq_true rfl) (fun M40 hM40 => ?_)
  refine zr_dup (pc' := 169) dX11_init_168 rfl rfl ?_
  refine zk_callIN (k := 71) (k' := 79) (f := nM_70) (cu' := (78, 12491)) (pc' := 172) dX11_init_169 rfl ck_X11_56 ⟨rfl, rfl, by decide, by decide⟩ (by decide) (Nat.le_of_ble_eq_true rfl) rfl (Nat.le_of_ble_eq_true rfl) (Nat.le_of_ble_eq_true rfl) rfl (Nat.le_of_ble_eq_true rfl) (in_o70 E _) (fun M41 hM41 => ?_)
  refine zr_aast (pc' := 173) (t0 := 3) dX11_init_172 rfl (by decide) (zNk_kd (k := 79) (a := 34) rfl (by decide)) (by decide) (fun _ => rfl) (by decide) (zNk_kd (k := 79) (a := 70) rfl (by decide)) (by decide) rfl (by decide) (by decide) (by decide) (fun M42 hM42 => ?_)
  refine zr_iinc (pc' := 176) (al' := [(1, .inl 1), (0, .inr (.inr 0))]) dX11_init_173 rfl rfl (by decide) rfl ?_
  refine zr_goto (pc' := 142) dX11_init_176 rfl ?_
  refine zr_iload_n (pc' := 143) (i := 1) dX11_init_142 rfl rfl rfl ?_
  refine zr_iconst (pc' := 144) dX11_init_143 rfl ?_
  refine zr_icmp_ge (tgt := 179) (pc' := 147) dX11_init_144 rfl rfl (zRd rfl) (zRd rfl) (fun hc => absurd hc (by decide)) (fun _ => ?_)
  refine zr_aload_n (pc' := 148) (i := 0) dX11_init_147 rfl rfl rfl ?_
  refine zr_get (pc' := 151) (v := .inr (.inr 33)) dX11_init_148 rfl (by decide) (zNk_kd (k := 79) (a := 0) rfl (by decide)) fl_X11_46 kc_11 (by subst hM1; subst hM2; subst hM3; subst hM4; subst hM5; subst hM6; subst hM7; subst hM8; subst hM9; subst hM10; subst hM11; subst hM12; subst hM13; subst hM14; subst hM15; subst hM16; subst hM17; subst hM18; subst hM19; subst hM20; subst hM21; subst hM22; subst hM23; subst hM24; subst hM25; subst hM26; subst hM27; subst hM28; subst hM29; subst hM30; subst hM31; subst hM32; subst hM33; subst hM34; subst hM35; subst hM36; subst hM37; subst hM38; subst hM39; subst hM40; subst hM41; subst hM42; rfl) ?_
  refine zr_iload_n (pc' := 152) (i := 1) dX11_init_151 rfl rfl rfl ?_
  refine zk_new (k := 79) (k' := 80) (cu' := (79, 12496)) (pc' := 155) dX11_init_152 rfl rfl rfl kc_10 rfl (by decide) (zi 2 37 rfl rfl) in_10 (zi 1 12 rfl rfl) rfl (Nat.le_of_ble_eq_true rfl) (Nat.le_of_ble_eq_true rfl) (fun M43 hM43 => ?_)
  refine zr_dup (pc' := 156) dX11_init_155 rfl rfl ?_
  refine zk_callIN (k := 80) (k' := 80) (f := nM_79) (cu' := (79, 12496)) (pc' := 159) dX11_init_156 rfl ck_X11_87 ⟨rfl, rfl, by decide, by decide⟩ (by decide) (Nat.le_of_ble_eq_true rfl) rfl (Nat.le_of_ble_eq_true rfl) (Nat.le_of_ble_eq_true rfl) rfl (Nat.le_of_ble_eq_true rfl) (in_o79 E _) (fun M44 hM44 => ?_)
  refine zr_aast (pc' := 160) (t0 := 5) dX11_init_159 rfl (by decide) (zNk_kd (k := 80) (a := 33) rfl (by decide)) (by decide) (fun _ => rfl) (by decide) (zNk_kd (k := 80) (a := 79) rfl (by decide)) (by decide) rfl (by decide) (by decide) (by decide) (fun M45 hM45 => ?_)
  refine zr_aload_n (pc' := 161) (i := 0) dX11_init_160 rfl rfl rfl ?_
  refine zr_get (pc' := 164) (v := .inr (.inr 34)) dX11_init_161 rfl (by decide) (zNk_kd (k := 80) (a := 0) rfl (by decide)) fl_X11_52 kc_11 (by subst hM1; subst hM2; subst hM3; subst hM4; subst hM5; subst hM6; subst hM7; subst hM8; subst hM9; subst hM10; subst hM11; subst hM12; subst hM13; subst hM14; subst hM15; subst hM16; subst hM17; subst hM18; subst hM19; subst hM20; subst hM21; subst hM22; subst hM23; subst hM24; subst hM25; subst hM26; subst hM27; subst hM28; subst hM29; subst hM30; subst hM31; subst hM32; subst hM33; subst hM34; subst hM35; subst hM36; subst hM37; subst hM38; subst hM39; subst hM40; subst hM41; subst hM42; subst hM43; subst hM44; subst hM45; rfl) ?_
  refine zr_iload_n (pc' := 165) (i := 1) dX11_init_164 rfl rfl rfl ?_
  refine zk_new (k := 80) (k' := 81) (cu' := (80, 12508)) (pc' := 168) dX11_init_165 rfl rfl rfl kc_0 rfl (by decide) (zi 2 39 rfl rfl) in_0 (zi 1 9 rfl rfl) rfl (Nat.le_of_ble_eq_true rfl) (Nat.le_of_ble_eq_true rfl) (fun M46 hM46 => ?_)
  refine zr_dup (pc' := 169) dX11_init_168 rfl rfl ?_
  refine zk_callIN (k := 81) (k' := 89) (f := nM_80) (cu' := (88, 14638)) (pc' := 172) dX11_init_169 rfl ck_X11_56 ⟨rfl, rfl, by decide, by decide⟩ (by decide) (Nat.le_of_ble_eq_true rfl) rfl (Nat.le_of_ble_eq_true rfl) (Nat.le_of_ble_eq_true rfl) rfl (Nat.le_of_ble_eq_true rfl) (in_o80 E _) (fun M47 hM47 => ?_)
  refine zr_aast (pc' := 173) (t0 := 3) dX11_init_172 rfl (by decide) (zNk_kd (k := 89) (a := 34) rfl (by decide)) (by decide) (fun _ => rfl) (by decide) (zNk_kd (k := 89) (a := 80) rfl (by decide)) (by decide) rfl (by decide) (by decide) (by decide) (fun M48 hM48 => ?_)
  refine zr_iinc (pc' := 176) (al' := [(1, .inl 2), (0, .inr (.inr 0))]) dX11_init_173 rfl rfl (by decide) rfl ?_
  refine zr_goto (pc' := 142) dX11_init_176 rfl ?_
  refine zr_iload_n (pc' := 143) (i := 1) dX11_init_142 rfl rfl rfl ?_
  refine zr_iconst (pc' := 144) dX11_init_143 rfl ?_
  refine zr_icmp_ge (tgt := 179) (pc' := 147) dX11_init_144 rfl rfl (zRd rfl) (zRd rfl) (fun hc => absurd hc (by decide)) (fun _ => ?_)
  refine zr_aload_n (pc' := 148) (i := 0) dX11_init_147 rfl rfl rfl ?_
  refine zr_get (pc' := 151) (v := .inr (.inr 33)) dX11_init_148 rfl (by decide) (zNk_kd (k := 89) (a := 0) rfl (by decide)) fl_X11_46 kc_11 (by subst hM1; subst hM2; subst hM3; subst hM4; subst hM5; subst hM6; subst hM7; subst hM8; subst hM9; subst hM10; subst hM11; subst hM12; subst hM13; subst hM14; subst hM15; subst hM16; subst hM17; subst hM18; subst hM19; subst hM20; subst hM21; subst hM22; subst hM23; subst hM24; subst hM25; subst hM26; subst hM27; subst hM28; subst hM29; subst hM30; subst hM31; subst hM32; subst hM33; subst hM34; subst hM35; subst hM36; subst hM37; subst hM38; subst hM39; subst hM40; subst hM41; subst hM42; subst hM43; subst hM44; subst hM45; subst hM46; subst hM47; subst hM48; rfl) ?_
  refine zr_iload_n (pc' := 152) (i := 1) dX11_init_151 rfl rfl rfl ?_
  refine zk_new (k := 89) (k' := 90) (cu' := (89, 14643)) (pc' := 155) dX11_init_152 rfl rfl rfl kc_10 rfl (by decide) (zi 2 37 rfl rfl) in_10 (zi 1 12 rfl rfl) rfl (Nat.le_of_ble_eq_true rfl) (Nat.le_of_ble_eq_true rfl) (fun M49 hM49 => ?_)
  refine zr_dup (pc' := 156) dX11_init_155 rfl rfl ?_
  refine zk_callIN (k := 90) (k' := 90) (f := nM_89) (cu' := (89, 14643)) (pc' := 159) dX11_init_156 rfl ck_X11_87 ⟨rfl, rfl, by decide, by decide⟩ (by decide) (Nat.le_of_ble_eq_true rfl) rfl (Nat.le_of_ble_eq_true rfl) (Nat.le_of_ble_eq_true rfl) rfl (Nat.le_of_ble_eq_true rfl) (in_o89 E _) (fun M50 hM50 => ?_)
  refine zr_aast (pc' := 160) (t0 := 5) dX11_init_159 rfl (by decide) (zNk_kd (k := 90) (a := 33) rfl (by decide)) (by decide) (fun _ => rfl) (by decide) (zNk_kd (k := 90) (a := 89) rfl (by decide)) (by decide) rfl (by decide) (by decide) (by decide) (fun M51 hM51 => ?_)
  refine zr_aload_n (pc' := 161) (i := 0) dX11_init_160 rfl rfl rfl ?_
  refine zr_get (pc' := 164) (v := .inr (.inr 34)) dX11_init_161 rfl (by decide) (zNk_kd (k := 90) (a := 0) rfl (by decide)) fl_X11_52 kc_11 (by subst hM1; subst hM2; subst hM3; subst hM4; subst hM5; subst hM6; subst hM7; subst hM8; subst hM9; subst hM10; subst hM11; subst hM12; subst hM13; subst hM14; subst hM15; subst hM16; subst hM17; subst hM18; subst hM19; subst hM20; subst hM21; subst hM22; subst hM23; subst hM24; subst hM25; subst hM26; subst hM27; subst hM28; subst hM29; subst hM30; subst hM31; subst hM32; subst hM33; subst hM34; subst hM35; subst hM36; subst hM37; subst hM38; subst hM39; subst hM40; subst hM41; subst hM42; subst hM43; subst hM44; subst hM45; subst hM46; subst hM47; subst hM48; subst hM49; subst hM50; subst hM51; rfl) ?_
  refine zr_iload_n (pc' := 165) (i := 1) dX11_init_164 rfl rfl rfl ?_
  refine zk_new (k := 90) (k' := 91) (cu' := (90, 14655)) (pc' := 168) dX11_init_165 rfl rfl rfl kc_0 rfl (by decide) (zi 2 39 rfl rfl) in_0 (zi 1 9 rfl rfl) rfl (Nat.le_of_ble_eq_true rfl) (Nat.le_of_ble_eq_true rfl) (fun M52 hM52 => ?_)
  refine zr_dup (pc' := 169) dX11_init_168 rfl rfl ?_
  refine zk_callIN (k := 91) (k' := 99) (f := nM_90) (cu' := (98, 16785)) (pc' := 172) dX11_init_169 rfl ck_X11_56 ⟨rfl, rfl, by decide, by decide⟩ (by decide) (Nat.le_of_ble_eq_true rfl) rfl (Nat.le_of_ble_eq_true rfl) (Nat.le_of_ble_eq_true rfl) rfl (Nat.le_of_ble_eq_true rfl) (in_o90 E _) (fun M53 hM53 => ?_)
  refine zr_aast (pc' := 173) (t0 := 3) dX11_init_172 rfl (by decide) (zNk_kd (k := 99) (a := 34) rfl (by decide)) (by decide) (fun _ => rfl) (by decide) (zNk_kd (k := 99) (a := 90) rfl (by decide)) (by decide) rfl (by decide) (by decide) (by decide) (fun M54 hM54 => ?_)
  refine zr_iinc (pc' := 176) (al' := [(1, .inl 3), (0, .inr (.inr 0))]) dX11_init_173 rfl rfl (by decide) rfl ?_
  refine zr_goto (pc' := 142) dX11_init_176 rfl ?_
  refine zr_iload_n (pc' := 143) (i := 1) dX11_init_142 rfl rfl rfl ?_
  refine zr_iconst (pc' := 144) dX11_init_143 rfl ?_
  refine zr_icmp_ge (tgt := 179) (pc' := 147) dX11_init_144 rfl rfl (zRd rfl) (zRd rfl) (fun _ => ?_) (fun hc => absurd hc (by decide))
  refine zr_iconst (pc' := 180) dX11_init_179 rfl ?_
  refine zr_istore_n (pc' := 181) (i := 1) (al' := [(1, .inl 0), (0, .inr (.inr 0))]) dX11_init_180 rfl rfl (by decide) rfl ?_
  refine zr_iload_n (pc' := 182) (i := 1) dX11_init_181 rfl rfl rfl ?_
  refine zr_iconst (pc' := 183) dX11_init_182 rfl ?_
  refine zr_icmp_gt (tgt := 205) (pc' := 186) dX11_init_183 rfl rfl (zRd rfl) (zRd rfl) (fun hc => absurd hc (by decide)) (fun _ => ?_)
  refine zr_aload_n (pc' := 187) (i := 0) dX11_init_186 rfl rfl rfl ?_
  refine zr_get (pc' := 190) (v := .inr (.inr 66)) dX11_init_187 rfl (by decide) (zNk_kd (k := 99) (a := 0) rfl (by decide)) fl_X11_77 kc_11 (by subst hM1; subst hM2; subst hM3; subst hM4; subst hM5; subst hM6; subst hM7; subst hM8; subst hM9; subst hM10; subst hM11; subst hM12; subst hM13; subst hM14; subst hM15; subst hM16; subst hM17; subst hM18; subst hM19; subst hM20; subst hM21; subst hM22; subst hM23; subst hM24; subst hM25; subst hM26; subst hM27; subst hM28; subst hM29; subst hM30; subst hM31; subst hM32; subst hM33; subst hM34; subst hM35; subst hM36; subst hM37; subst hM38; subst hM39; subst hM40; subst hM41; subst hM42; subst hM43; subst hM44; subst hM45; subst hM46; subst hM47; subst hM48; subst hM49; subst hM50; subst hM51; subst hM52; subst hM53; subst hM54; rfl) ?_
  refine zr_iload_n (pc' := 191) (i := 1) dX11_init_190 rfl rfl rfl ?_
  refine zk_new (k := 99) (k' := 100) (cu' := (99, 16790)) (pc' := 194) dX11_init_191 rfl rfl rfl kc_4 rfl (by decide) (zi 2 186 rfl rfl) in_4 (zi 1 13 rfl rfl) rfl (Nat.le_of_ble_eq_true rfl) (Nat.le_of_ble_eq_true rfl) (fun M55 hM55 => ?_)
  refine zr_dup (pc' := 195) dX11_init_194 rfl rfl ?_
  refine zk_callIN (k := 100) (k' := 100) (f := nM_99) (cu' := (99, 16790)) (pc' := 198) dX11_init_195 rfl ck_X11_88 ⟨rfl, rfl, by decide, by decide⟩ (by decide) (Nat.le_of_ble_eq_true rfl) rfl (Nat.le_of_ble_eq_true rfl) (Nat.le_of_ble_eq_true rfl) rfl (Nat.le_of_ble_eq_true rfl) (in_o99 E _) (fun M56 hM56 => ?_)
  refine zr_aast (pc' := 199) (t0 := 4) dX11_init_198 rfl (by decide) (zNk_kd (k := 100) (a := 66) rfl (by decide)) (by decide) (fun _ => rfl) (by decide) (zNk_kd (k := 100) (a := 99) rfl (by decide)) (by decide) rfl (by decide) (by decide) (by decide) (fun M57 hM57 => ?_)
  refine zr_iinc (pc' := 202) (al' := [(1, .inl 1), (0, .inr (.inr 0))]) dX11_init_199 rfl rfl (by decide) rfl ?_
  refine zr_goto (pc' := 181) dX11_init_202 rfl ?_
  refine zr_iload_n (pc' := 182) (i := 1) dX11_init_181 rfl rfl rfl ?_
  refine zr_iconst (pc' := 183) dX11_init_182 rfl ?_
  refine zr_icmp_gt (tgt := 205) (pc' := 186) dX11_init_183 rfl rfl (zRd rfl) (zRd rfl) (fun hc => absurd hc (by decide)) (fun _ => ?_)
  refine zr_aload_n (pc' := 187) (i := 0) dX11_init_186 rfl rfl rfl ?_
  refine zr_get (pc' := 190) (v := .inr (.inr 66)) dX11_init_187 rfl (by decide) (zNk_kd (k := 100) (a := 0) rfl (by decide)) fl_X11_77 kc_11 (by subst hM1; subst hM2; subst hM3; subst hM4; subst hM5; subst hM6; subst hM7; subst hM8; subst hM9; subst hM10; subst hM11; subst hM12; subst hM13; subst hM14; subst hM15; subst hM16; subst hM17; subst hM18; subst hM19; subst hM20; subst hM21; subst hM22; subst hM23; subst hM24; subst hM25; subst hM26; subst hM27; subst hM28; subst hM29; subst hM30; subst hM31; subst hM32; subst hM33; subst hM34; subst hM35; subst hM36; subst hM37; subst hM38; subst hM39; subst hM40; subst hM41; subst hM42; subst hM43; subst hM44; subst hM45; subst hM46; subst hM47; subst hM48; subst hM49; subst hM50; subst hM51; subst hM52; subst hM53; subst hM54; subst hM55; subst hM56; subst hM57; rfl) ?_
  refine zr_iload_n (pc' := 191) (i := 1) dX11_init_190 rfl rfl rfl ?_
  refine zk_new (k := 100) (k' := 101) (cu' := (100, 16795)) (pc' := 194) dX11_init_191 rfl rfl rfl kc_4 rfl (by decide) (zi 2 186 rfl rfl) in_4 (zi 1 13 rfl rfl) rfl (Nat.le_of_ble_eq_true rfl) (Nat.le_of_ble_eq_true rfl) (fun M58 hM58 => ?_)
  refine zr_dup (pc' := 195) dX11_init_194 rfl rfl ?_
  refine zk_callIN (k := 101) (k' := 101) (f := nM_100) (cu' := (100, 16795)) (pc' := 198) dX11_init_195 rfl ck_X11_88 ⟨rfl, rfl, by decide, by decide⟩ (by decide) (Nat.le_of_ble_eq_true rfl) rfl (Nat.le_of_ble_eq_true rfl) (Nat.le_of_ble_eq_true rfl) rfl (Nat.le_of_ble_eq_true rfl) (in_o100 E _) (fun M59 hM59 => ?_)
  refine zr_aast (pc' := 199) (t0 := 4) dX11_init_198 rfl (by decide) (zNk_kd (k := 101) (a := 66) rfl (by decide)) (by decide) (fun _ => rfl) (by decide) (zNk_kd (k := 101) (a := 100) rfl (by decide)) (by decide) rfl (by decide) (by decide) (by decide) (fun M60 hM60 => ?_)
  refine zr_iinc (pc' := 202) (al' := [(1, .inl 2), (0, .inr (.inr 0))]) dX11_init_199 rfl rfl (by decide) rfl ?_
  refine zr_goto (pc' := 181) dX11_init_202 rfl ?_
  refine zr_iload_n (pc' := 182) (i := 1) dX11_init_181 rfl rfl rfl ?_
  refine zr_iconst (pc' := 183) dX11_init_182 rfl ?_
  refine zr_icmp_gt (tgt := 205) (pc' := 186) dX11_init_183 rfl rfl (zRd rfl) (zRd rfl) (fun hc => absurd hc (by decide)) (fun _ => ?_)
  refine zr_aload_n (pc' := 187) (i := 0) dX11_init_186 rfl rfl rfl ?_
  refine zr_get (pc' := 190) (v := .inr (.inr 66)) dX11_init_187 rfl (by decide) (zNk_kd (k := 101) (a := 0) rfl (by decide)) fl_X11_77 kc_11 (by subst hM1; subst hM2; subst hM3; subst hM4; subst hM5; subst hM6; subst hM7; subst hM8; subst hM9; subst hM10; subst hM11; subst hM12; subst hM13; subst hM14; subst hM15; subst hM16; subst hM17; subst hM18; subst hM19; subst hM20; subst hM21; subst hM22; subst hM23; subst hM24; subst hM25; subst hM26; subst hM27; subst hM28; subst hM29; subst hM30; subst hM31; subst hM32; subst hM33; subst hM34; subst hM35; subst hM36; subst hM37; subst hM38; subst hM39; subst hM40; subst hM41; subst hM42; subst hM43; subst hM44; subst hM45; subst hM46; subst hM47; subst hM48; subst hM49; subst hM50; subst hM51; subst hM52; subst hM53; subst hM54; subst hM55; subst hM56; subst hM57; subst hM58; subst hM59; subst hM60; rfl) ?_
  refine zr_iload_n (pc' := 191) (i := 1) dX11_init_190 rfl rfl rfl ?_
  refine zk_new (k := 101) (k' := 102) (cu' := (101, 16800)) (pc' := 194) dX11_init_191 rfl rfl rfl kc_4 rfl (by decide) (zi 2 186 rfl rfl) in_4 (zi 1 13 rfl rfl) rfl (Nat.le_of_ble_eq_true rfl) (Nat.le_of_ble_eq_true rfl) (fun M61 hM61 => ?_)
  refine zr_dup (pc' := 195) dX11_init_194 rfl rfl ?_
  refine zk_callIN (k := 102) (k' := 102) (f := nM_101) (cu' := (101, 16800)) (pc' := 198) dX11_init_195 rfl ck_X11_88 ⟨rfl, rfl, by decide, by decide⟩ (by decide) (Nat.le_of_ble_eq_true rfl) rfl (Nat.le_of_ble_eq_true rfl) (Nat.le_of_ble_eq_true rfl) rfl (Nat.le_of_ble_eq_true rfl) (in_o101 E _) (fun M62 hM62 => ?_)
  refine zr_aast (pc' := 199) (t0 := 4) dX11_init_198 rfl (by decide) (zNk_kd (k := 102) (a := 66) rfl (by decide)) (by decide) (fun _ => rfl) (by decide) (zNk_kd (k := 102) (a := 101) rfl (by decide)) (by decide) rfl (by decide) (by decide) (by decide) (fun M63 hM63 => ?_)
  refine zr_iinc (pc' := 202) (al' := [(1, .inl 3), (0, .inr (.inr 0))]) dX11_init_199 rfl rfl (by decide) rfl ?_
  refine zr_goto (pc' := 181) dX11_init_202 rfl ?_
  refine zr_iload_n (pc' := 182) (i := 1) dX11_init_181 rfl rfl rfl ?_
  refine zr_iconst (pc' := 183) dX11_init_182 rfl ?_
  refine zr_icmp_gt (tgt := 205) (pc' := 186) dX11_init_183 rfl rfl (zRd rfl) (zRd rfl) (fun _ => ?_) (fun hc => absurd hc (by decide))
  refine zr_return (x := 0) dX11_init_205 rfl (Nat.le_of_ble_eq_true rfl) (Nat.le_of_ble_eq_true rfl) ⟨rfl, ?_⟩
  subst hM1
  subst hM2
  subst hM3
  subst hM4
  subst hM5
  subst hM6
  subst hM7
  subst hM8
  subst hM9
  subst hM10
  subst hM11
  subst hM12
  subst hM13
  subst hM14
  subst hM15
  subst hM16
  subst hM17
  subst hM18
  subst hM19
  subst hM20
  subst hM21
  subst hM22
  subst hM23
  subst hM24
  subst hM25
  subst hM26
  subst hM27
  subst hM28
  subst hM29
  subst hM30
  subst hM31
  subst hM32
  subst hM33
  subst hM34
  subst hM35
  subst hM36
  subst hM37
  subst hM38
  subst hM39
  subst hM40
  subst hM41
  subst hM42
  subst hM43
  subst hM44
  subst hM45
  subst hM46
  subst hM47
  subst hM48
  subst hM49
  subst hM50
  subst hM51
  subst hM52
  subst hM53
  subst hM54
  subst hM55
  subst hM56
  subst hM57
  subst hM58
  subst hM59
  subst hM60
  subst hM61
  subst hM62
  subst hM63
  rfl
def nM_102 (M : zM) : zM :=
  let M1 := zal M 103 (100, 500)
  let M2 := zup M1 102 0 103
  let M3 := zal M2 104 (100, 8)
  let M4 := zup M3 102 5 104
  let M5 := zal M4 105 (100, 400)
  let M6 := zup M5 102 7 105
  let M7 := zal M6 106 (100, 400)
  let M8 := zup M7 102 8 106
  let M9 := zal M8 107 (100, 400)
  let M10 := zup M9 102 9 107
  let M11 := zal M10 108 (100, 400)
  let M12 := zup M11 102 10 108
  let M13 := zal M12 109 (102, 400)
  let M14 := zup M13 102 11 109
  let M15 := zal M14 110 (102, 800)
  let M16 := zup M15 102 12 110
  let M17 := zal M16 111 (100, 800)
  let M18 := zup M17 102 13 111
  let M19 := zal M18 112 (100, 77)
  let M20 := zup M19 112 0 107
  let M21 := zup M20 112 1 101
  let M22 := zup M21 112 2 101
  let M23 := zup M22 112 3 112
  let M24 := zup M23 112 4 32
  let M25 := zup M24 112 5 108
  let M26 := zup M25 112 6 101
  let M27 := zup M26 112 7 118
  let M28 := zup M27 112 8 101
  let M29 := zup M28 112 9 108
  let M30 := zup M29 112 10 32
  let M31 := zup M30 112 11 111
  let M32 := zup M31 112 12 114
  let M33 := zup M32 112 13 32
  let M34 := zup M33 112 14 97
  let M35 := zup M34 112 15 110
  let M36 := zup M35 112 16 100
  let M37 := zup M36 112 17 32
  let M38 := zup M37 112 18 110
  let M39 := zup M38 112 19 111
  let M40 := zup M39 112 20 116
  let M41 := zup M40 112 21 32
  let M42 := zup M41 112 22 108
  let M43 := zup M42 112 23 97
  let M44 := zup M43 112 24 115
  let M45 := zup M44 112 25 116
  let M46 := zup M45 112 26 32
  let M47 := zup M46 112 27 102
  let M48 := zup M47 112 28 105
  let M49 := zup M48 112 29 114
  let M50 := zup M49 112 30 115
  let M51 := zup M50 112 31 116
  let M52 := zup M51 112 32 32
  let M53 := zup M52 112 33 115
  let M54 := zup M53 112 34 117
  let M55 := zup M54 112 35 109
  let M56 := zup M55 112 36 32
  let M57 := zup M56 112 37 109
  let M58 := zup M57 112 38 97
  let M59 := zup M58 112 39 120
  let M60 := zup M59 112 40 32
  let M61 := zup M60 112 41 109
  let M62 := zup M61 112 42 105
  let M63 := zup M62 112 43 110
  let M64 := zup M63 112 44 32
  let M65 := zup M64 112 45 99
  let M66 := zup M65 112 46 111
  let M67 := zup M66 112 47 117
  let M68 := zup M67 112 48 110
  let M69 := zup M68 112 49 116
  let M70 := zup M69 112 50 32
  let M71 := zup M70 112 51 103
  let M72 := zup M71 112 52 97
  let M73 := zup M72 112 53 112
  let M74 := zup M73 112 54 115
  let M75 := zup M74 112 55 32
  let M76 := zup M75 112 56 116
  let M77 := zup M76 112 57 114
  let M78 := zup M77 112 58 101
  let M79 := zup M78 112 59 109
  let M80 := zup M79 112 60 111
  let M81 := zup M80 112 61 114
  let M82 := zup M81 112 62 32
  let M83 := zup M82 112 63 116
  let M84 := zup M83 112 64 105
  let M85 := zup M84 112 65 108
  let M86 := zup M85 112 66 116
  let M87 := zup M86 112 67 32
  let M88 := zup M87 112 68 103
  let M89 := zup M88 112 69 97
  let M90 := zup M89 112 70 115
  let M91 := zup M90 112 71 32
  let M92 := zup M91 112 72 104
  let M93 := zup M92 112 73 101
  let M94 := zup M93 112 74 97
  let M95 := zup M94 112 75 116
  let M96 := zup M95 112 76 32
  let M97 := zup M96 102 14 112
  let M98 := zup M97 102 16 (-1)
  let M99 := zal M98 113 (100, 128)
  let M100 := zup M99 102 22 113
  let M101 := zal M100 114 (100, 128)
  let M102 := zup M101 102 23 114
  let M103 := zal M102 115 (100, 128)
  let M104 := zup M103 102 24 115
  let M105 := zal M104 116 (100, 128)
  let M106 := zup M105 102 25 116
  let M107 := zal M106 117 (100, 128)
  let M108 := zup M107 102 26 117
  let M109 := zal M108 118 (100, 128)
  let M110 := zup M109 102 27 118
  let M111 := zal M110 119 (100, 128)
  let M112 := zup M111 102 28 119
  let M113 := zal M112 120 (100, 24)
  let M114 := zup M113 102 29 120
  let M115 := zal M114 121 (100, 24)
  let M116 := zup M115 102 30 121
  let M117 := zal M116 122 (100, 24)
  let M118 := zup M117 102 31 122
  let M119 := zal M118 123 (100, 100)
  let M120 := zup M119 102 40 123
  let M121 := zal M120 124 (100, 100)
  let M122 := zup M121 102 41 124
  let M123 := zal M122 125 (100, 100)
  let M124 := zup M123 102 43 125
  let M125 := zal M124 126 (102, 8)
  let M126 := zup M125 102 45 126
  let M127 := zal M126 127 (101, 64)
  let M128 := zup M127 102 50 127
  let M129 := zup M128 102 51 4
  let M130 := zup M129 102 52 4
  let M131 := zal M130 128 (100, 64)
  let M132 := zup M131 102 53 128
  let M133 := zal M132 129 (100, 64)
  let M134 := zup M133 102 54 129
  let M135 := zal M134 130 (102, 64)
  let M136 := zup M135 102 55 130
  let M137 := zal M136 131 (102, 64)
  let M138 := zup M137 102 56 131
  let M139 := zal M138 132 (100, 3)
  let M140 := zup M139 102 59 132
  let M141 := zal M140 133 (100, 3)
  let M142 := zup M141 102 60 133
  let M143 := zal M142 134 (100, 3)
  let M144 := zup M143 102 61 134
  let M145 := zal M144 135 (100, 3)
  let M146 := zup M145 102 62 135
  let M147 := zal M146 136 (100, 3)
  let M148 := zup M147 102 63 136
  let M149 := zal M148 137 (100, 832)
  let M150 := zup M149 102 64 137
  let M151 := zal M150 138 (100, 832)
  let M152 := zup M151 102 65 138
  let M153 := zal M152 139 (100, 64)
  let M154 := zup M153 102 66 139
  let M155 := zal M154 140 (100, 64)
  let M156 := zup M155 102 67 140
  let M157 := zal M156 141 (100, 64)
  let M158 := zup M157 102 68 141
  let M159 := zal M158 142 (102, 8)
  let M160 := zup M159 102 70 142
  let M161 := zal M160 143 (100, 8)
  let M162 := zup M161 102 71 143
  let M163 := zal M162 144 (100, 8)
  let M164 := zup M163 102 72 144
  let M165 := zal M164 145 (100, 8)
  let M166 := zup M165 102 73 145
  let M167 := zal M166 146 (100, 8)
  let M168 := zup M167 102 74 146
  let M169 := zal M168 147 (100, 8)
  let M170 := zup M169 102 75 147
  let M171 := zal M170 148 (100, 14)
  let M172 := zup M171 102 77 148
  let M173 := zal M172 149 (100, 14)
  let M174 := zup M173 102 78 149
  let M175 := zal M174 150 (100, 14)
  let M176 := zup M175 102 79 150
  let M177 := zal M176 151 (100, 14)
  let M178 := zup M177 102 80 151
  let M179 := zal M178 152 (100, 14)
  let M180 := zup M179 102 81 152
  let M181 := zal M180 153 (100, 14)
  let M182 := zup M181 102 82 153
  let M183 := zal M182 154 (100, 100)
  let M184 := zup M183 102 83 154
  let M185 := zal M184 155 (100, 100)
  let M186 := zup M185 102 84 155
  let M187 := zal M186 156 (100, 1400)
  let M188 := zup M187 102 86 156
  let M189 := zal M188 157 (100, 1400)
  let M190 := zup M189 102 87 157
  let M191 := zal M190 158 (100, 1400)
  let M192 := zup M191 102 88 158
  let M193 := zal M192 159 (100, 1400)
  let M194 := zup M193 102 89 159
  let M195 := zal M194 160 (100, 402)
  let M196 := zup M195 102 90 160
  let M197 := zal M196 161 (100, 402)
  let M198 := zup M197 102 91 161
  let M199 := zal M198 162 (100, 6)
  let M200 := zup M199 102 97 162
  let M201 := zal M200 163 (100, 124)
  let M202 := zup M201 102 105 163
  let M203 := zal M202 164 (100, 124)
  let M204 := zup M203 102 106 164
  M204
set_option maxRecDepth 20000 in
theorem in_o102 (E : zE) (M : zM) : zC E (zNk 103) mX12_init [.inr (.inr 102)] M (fun _ N' M' => N' = zNk 165 ∧ M' = nM_102 M) := by
  refine zC_of (by decide +kernel) rfl (by rw [lg_zl]; exact Nat.le_of_ble_eq_true rfl) ?_
  show zA E (zNk 103) (0, 0) mX12_init 0 [(0, .inr (.inr 102))] [] M _
  refine zr_aload_n (pc' := 1) (i := 0) dX12_init_0 rfl rfl rfl ?_
  refine zr_objInit (pc' := 4) dX12_init_1 rfl (by decide) (zi 6 106 rfl rfl) (zi 1 32 rfl rfl) (zi 1 33 rfl rfl) (by decide) (Nat.le_of_ble_eq_true rfl) ?_
  refine zr_aload_n (pc' := 5) (i := 0) dX12_init_4 rfl rfl rfl ?_
  refine zr_sipush (pc' := 8) dX12_init_5 rfl rfl ?_
  refine zk_newa (k := 103) (k' := 104) (n := 500) (t0 := 0) (cu' := (1, 500)) (pc' := 10) dX12_init_8 rfl rfl rfl rfl (Or.inl ⟨rfl, rfl⟩) (fun _ => rfl) (zi 1 72 rfl rfl) (by decide) rfl (Nat.le_of_ble_eq_true rfl) (Nat.le_of_ble_eq_true rfl) (fun M1 hM1 => ?_)
  refine zr_putF (pc' := 13) (x := 103) dX12_init_10 rfl (by decide) (zNk_kd (k := 104) (a := 102) rfl (by decide)) fl_X12_7 kc_12 rfl rfl rfl rfl rfl trivial (fun M2 hM2 => ?_)
  refine zr_aload_n (pc' := 14) (i := 0) dX12_init_13 rfl rfl rfl ?_
  refine zr_bipush (pc' := 16) dX12_init_14 rfl rfl ?_
  refine zk_newa (k := 104) (k' := 105) (n := 8) (t0 := 0) (cu' := (2, 508)) (pc' := 18) dX12_init_16 rfl rfl rfl rfl (Or.inl ⟨rfl, rfl⟩) (fun _ => rfl) (zi 1 72 rfl rfl) (by decide) rfl (Nat.le_of_ble_eq_true rfl) (Nat.le_of_ble_eq_true rfl) (fun M3 hM3 => ?_)
  refine zr_putF (pc' := 21) (x := 104) dX12_init_18 rfl (by decide) (zNk_kd (k := 105) (a := 102) rfl (by decide)) fl_X12_13 kc_12 rfl rfl rfl rfl rfl trivial (fun M4 hM4 => ?_)
  refine zr_aload_n (pc' := 22) (i := 0) dX12_init_21 rfl rfl rfl ?_
  refine zr_sipush (pc' := 25) dX12_init_22 rfl rfl ?_
  refine zk_newa (k := 105) (k' := 106) (n := 400) (t0 := 0) (cu' := (3, 908)) (pc' := 27) dX12_init_25 rfl rfl rfl rfl (Or.inl ⟨rfl, rfl⟩) (fun _ => rfl) (zi 1 72 rfl rfl) (by decide) rfl (Nat.le_of_ble_eq_true rfl) (Nat.le_of_ble_eq_true rfl) (fun M5 hM5 => ?_)
  refine zr_putF (pc' := 30) (x := 105) dX12_init_27 rfl (by decide) (zNk_kd (k := 106) (a := 102) rfl (by decide)) fl_X12_16 kc_12 rfl rfl rfl rfl rfl trivial (fun M6 hM6 => ?_)
  refine zr_aload_n (pc' := 31) (i := 0) dX12_init_30 rfl rfl rfl ?_
  refine zr_sipush (pc' := 34) dX12_init_31 rfl rfl ?_
  refine zk_newa (k := 106) (k' := 107) (n := 400) (t0 := 0) (cu' := (4, 1308)) (pc' := 36) dX12_init_34 rfl rfl rfl rfl (Or.inl ⟨rfl, rfl⟩) (fun _ => rfl) (zi 1 72 rfl rfl) (by decide) rfl (Nat.le_of_ble_eq_true rfl) (Nat.le_of_ble_eq_true rfl) (fun M7 hM7 => ?_)
  refine zr_putF (pc' := 39) (x := 106) dX12_init_36 rfl (by decide) (zNk_kd (k := 107) (a := 102) rfl (by decide)) fl_X12_19 kc_12 rfl rfl rfl rfl rfl trivial (fun M8 hM8 => ?_)
  refine zr_aload_n (pc' := 40) (i := 0) dX12_init_39 rfl rfl rfl ?_
  refine zr_sipush (pc' := 43) dX12_init_40 rfl rfl ?_
  refine zk_newa (k := 107) (k' := 108) (n := 400) (t0 := 0) (cu' := (5, 1708)) (pc' := 45) dX12_init_43 rfl rfl rfl rfl (Or.inl ⟨rfl, rfl⟩) (fun _ => rfl) (zi 1 72 rfl rfl) (by decide) rfl (Nat.le_of_ble_eq_true rfl) (Nat.le_of_ble_eq_true rfl) (fun M9 hM9 => ?_)
  refine zr_putF (pc' := 48) (x := 107) dX12_init_45 rfl (by decide) (zNk_kd (k := 108) (a := 102) rfl (by decide)) fl_X12_22 kc_12 rfl rfl rfl rfl rfl trivial (fun M10 hM10 => ?_)
  refine zr_aload_n (pc' := 49) (i := 0) dX12_init_48 rfl rfl rfl ?_
  refine zr_sipush (pc' := 52) dX12_init_49 rfl rfl ?_
  refine zk_newa (k := 108) (k' := 109) (n := 400) (t0 := 0) (cu' := (6, 2108)) (pc' := 54) dX12_init_52 rfl rfl rfl rfl (Or.inl ⟨rfl, rfl⟩) (fun _ => rfl) (zi 1 72 rfl rfl) (by decide) rfl (Nat.le_of_ble_eq_true rfl) (Nat.le_of_ble_eq_true rfl) (fun M11 hM11 => ?_)
  refine zr_putF (pc' := 57) (x := 108) dX12_init_54 rfl (by decide) (zNk_kd (k := 109) (a := 102) rfl (by decide)) fl_X12_25 kc_12 rfl rfl rfl rfl rfl trivial (fun M12 hM12 => ?_)
  refine zr_aload_n (pc' := 58) (i := 0) dX12_init_57 rfl rfl rfl ?_
  refine zr_sipush (pc' := 61) dX12_init_58 rfl rfl ?_
  refine zk_newa (k := 109) (k' := 110) (n := 400) (t0 := 2) (cu' := (7, 2508)) (pc' := 63) dX12_init_61 rfl rfl rfl rfl (Or.inr (Or.inr ⟨rfl, rfl⟩)) (fun _ => rfl) (zi 1 116 rfl rfl) (by decide) rfl (Nat.le_of_ble_eq_true rfl) (Nat.le_of_ble_eq_true rfl) (fun M13 hM13 => ?_)
  refine zr_putF (pc' := 66) (x := 109) dX12_init_63 rfl (by decide) (zNk_kd (k := 110) (a := 102) rfl (by decide)) fl_X12_28 kc_12 rfl rfl rfl rfl rfl trivial (fun M14 hM14 => ?_)
  refine zr_aload_n (pc' := 67) (i := 0) dX12_init_66 rfl rfl rfl ?_
  refine zr_sipush (pc' := 70) dX12_init_67 rfl rfl ?_
  refine zk_newa (k := 110) (k' := 111) (n := 800) (t0 := 2) (cu' := (8, 3308)) (pc' := 72) dX12_init_70 rfl rfl rfl rfl (Or.inr (Or.inr ⟨rfl, rfl⟩)) (fun _ => rfl) (zi 1 116 rfl rfl) (by decide) rfl (Nat.le_of_ble_eq_true rfl) (Nat.le_of_ble_eq_true rfl) (fun M15 hM15 => ?_)
  refine zr_putF (pc' := 75) (x := 110) dX12_init_72 rfl (by decide) (zNk_kd (k := 111) (a := 102) rfl (by decide)) fl_X12_32 kc_12 rfl rfl rfl rfl rfl trivial (fun M16 hM16 => ?_)
  refine zr_aload_n (pc' := 76) (i := 0) dX12_init_75 rfl rfl rfl ?_
  refine zr_sipush (pc' := 79) dX12_init_76 rfl rfl ?_
  refine zk_newa (k := 111) (k' := 112) (n := 800) (t0 := 0) (cu' := (9, 4108)) (pc' := 81) dX12_init_79 rfl rfl rfl rfl (Or.inl ⟨rfl, rfl⟩) (fun _ => rfl) (zi 1 72 rfl rfl) (by decide) rfl (Nat.le_of_ble_eq_true rfl) (Nat.le_of_ble_eq_true rfl) (fun M17 hM17 => ?_)
  refine zr_putF (pc' := 84) (x := 111) dX12_init_81 rfl (by decide) (zNk_kd (k := 112) (a := 102) rfl (by decide)) fl_X12_35 kc_12 rfl rfl rfl rfl rfl trivial (fun M18 hM18 => ?_)
  refine zr_aload_n (pc' := 85) (i := 0) dX12_init_84 rfl rfl rfl ?_
  refine zr_bipush (pc' := 87) dX12_init_85 rfl rfl ?_
  refine zk_newa (k := 112) (k' := 113) (n := 77) (t0 := 0) (cu' := (10, 4185)) (pc' := 89) dX12_init_87 rfl rfl rfl rfl (Or.inl ⟨rfl, rfl⟩) (fun _ => rfl) (zi 1 72 rfl rfl) (by decide) rfl (Nat.le_of_ble_eq_true rfl) (Nat.le_of_ble_eq_true rfl) (fun M19 hM19 => ?_)
  refine zr_dup (pc' := 90) dX12_init_89 rfl rfl ?_
  refine zr_iconst (pc' := 91) dX12_init_90 rfl ?_
  refine zr_bipush (pc' := 93) dX12_init_91 rfl rfl ?_
  refine zr_iast (pc' := 94) dX12_init_93 rfl (by decide) (zNk_kd (k := 113) (a := 112) rfl (by decide)) (by decide) (by decide) (by decide) (fun M20 hM20 => ?_)
  refine zr_dup (pc' := 95) dX12_init_94 rfl rfl ?_
  refine zr_iconst (pc' := 96) dX12_init_95 rfl ?_
  refine zr_bipush (pc' := 98) dX12_init_96 rfl rfl ?_
  refine zr_iast (pc' := 99) dX12_init_98 rfl (by decide) (zNk_kd (k := 113) (a := 112) rfl (by decide)) (by decide) (by decide) (by decide) (fun M21 hM21 => ?_)
  refine zr_dup (pc' := 100) dX12_init_99 rfl rfl ?_
  refine zr_iconst (pc' := 101) dX12_init_100 rfl ?_
  refine zr_bipush (pc' := 103) dX12_init_101 rfl rfl ?_
  refine zr_iast (pc' := 104) dX12_init_103 rfl (by decide) (zNk_kd (k := 113) (a := 112) rfl (by decide)) (by decide) (by decide) (by decide) (fun M22 hM22 => ?_)
  refine zr_dup (pc' := 105) dX12_init_104 rfl rfl ?_
  refine zr_iconst (pc' := 106) dX12_init_105 rfl ?_
  refine zr_bipush (pc' := 108) dX12_init_106 rfl rfl ?_
  refine zr_iast (pc' := 109) dX12_init_108 rfl (by decide) (zNk_kd (k := 113) (a := 112) rfl (by decide)) (by decide) (by decide) (by decide) (fun M23 hM23 => ?_)
  refine zr_dup (pc' := 110) dX12_init_109 rfl rfl ?_
  refine zr_iconst (pc' := 111) dX12_init_110 rfl ?_
  refine zr_bipush (pc' := 113) dX12_init_111 rfl rfl ?_
  refine zr_iast (pc' := 114) dX12_init_113 rfl (by decide) (zNk_kd (k := 113) (a := 112) rfl (by decide)) (by decide) (by decide) (by decide) (fun M24 hM24 => ?_)
  refine zr_dup (pc' := 115) dX12_init_114 rfl rfl ?_
  refine zr_iconst (pc' := 116) dX12_init_115 rfl ?_
  refine zr_bipush (pc' := 118) dX12_init_116 rfl rfl ?_
  refine zr_iast (pc' := 119) dX12_init_118 rfl (by decide) (zNk_kd (k := 113) (a := 112) rfl (by decide)) (by decide) (by decide) (by decide) (fun M25 hM25 => ?_)
  refine zr_dup (pc' := 120) dX12_init_119 rfl rfl ?_
  refine zr_bipush (pc' := 122) dX12_init_120 rfl rfl ?_
  refine zr_bipush (pc' := 124) dX12_init_122 rfl rfl ?_
  refine zr_iast (pc' := 125) dX12_init_124 rfl (by decide) (zNk_kd (k := 113) (a := 112) rfl (by decide)) (by decide) (by decide) (by decide) (fun M26 hM26 => ?_)
  refine zr_dup (pc' := 126) dX12_init_125 rfl rfl ?_
  refine zr_bipush (pc' := 128) dX12_init_126 rfl rfl ?_
  refine zr_bipush (pc' := 130) dX12_init_128 rfl rfl ?_
  refine zr_iast (pc' := 131) dX12_init_130 rfl (by decide) (zNk_kd (k := 113) (a := 112) rfl (by decide)) (by decide) (by decide) (by decide) (fun M27 hM27 => ?_)
  refine zr_dup (pc' := 132) dX12_init_131 rfl rfl ?_
  refine zr_bipush (pc' := 134) dX12_init_132 rfl rfl ?_
  refine zr_bipush (pc' := 136) dX12_init_134 rfl rfl ?_
  refine zr_iast (pc' := 137) dX12_init_136 rfl (by decide) (zNk_kd (k := 113) (a := 112) rfl (by decide)) (by decide) (by decide) (by decide) (fun M28 hM28 => ?_)
  refine zr_dup (pc' := 138) dX12_init_137 rfl rfl ?_
  refine zr_bipush (pc' := 140) dX12_init_138 rfl rfl ?_
  refine zr_bipush (pc' := 142) dX12_init_140 rfl rfl ?_
  refine zr_iast (pc' := 143) dX12_init_142 rfl (by decide) (zNk_kd (k := 113) (a := 112) rfl (by decide)) (by decide) (by decide) (by decide) (fun M29 hM29 => ?_)
  refine zr_dup (pc' := 144) dX12_init_143 rfl rfl ?_
  refine zr_bipush (pc' := 146) dX12_init_144 rfl rfl ?_
  refine zr_bipush (pc' := 148) dX12_init_146 rfl rfl ?_
  refine zr_iast (pc' := 149) dX12_init_148 rfl (by decide) (zNk_kd (k := 113) (a := 112) rfl (by decide)) (by decide) (by decide) (by decide) (fun M30 hM30 => ?_)
  refine zr_dup (pc' := 150) dX12_init_149 rfl rfl ?_
  refine zr_bipush (pc' := 152) dX12_init_150 rfl rfl ?_
  refine zr_bipush (pc' := 154) dX12_init_152 rfl rfl ?_
  refine zr_iast (pc' := 155) dX12_init_154 rfl (by decide) (zNk_kd (k := 113) (a := 112) rfl (by decide)) (by decide) (by decide) (by decide) (fun M31 hM31 => ?_)
  refine zr_dup (pc' := 156) dX12_init_155 rfl rfl ?_
  refine zr_bipush (pc' := 158) dX12_init_156 rfl rfl ?_
  refine zr_bipush (pc' := 160) dX12_init_158 rfl rfl ?_
  refine zr_iast (pc' := 161) dX12_init_160 rfl (by decide) (zNk_kd (k := 113) (a := 112) rfl (by decide)) (by decide) (by decide) (by decide) (fun M32 hM32 => ?_)
  refine zr_dup (pc' := 162) dX12_init_161 rfl rfl ?_
  refine zr_bipush (pc' := 164) dX12_init_162 rfl rfl ?_
  refine zr_bipush (pc' := 166) dX12_init_164 rfl rfl ?_
  refine zr_iast (pc' := 167) dX12_init_166 rfl (by decide) (zNk_kd (k := 113) (a := 112) rfl (by decide)) (by decide) (by decide) (by decide) (fun M33 hM33 => ?_)
  refine zr_dup (pc' := 168) dX12_init_167 rfl rfl ?_
  refine zr_bipush (pc' := 170) dX12_init_168 rfl rfl ?_
  refine zr_bipush (pc' := 172) dX12_init_170 rfl rfl ?_
  refine zr_iast (pc' := 173) dX12_init_172 rfl (by decide) (zNk_kd (k := 113) (a := 112) rfl (by decide)) (by decide) (by decide) (by decide) (fun M34 hM34 => ?_)
  refine zr_dup (pc' := 174) dX12_init_173 rfl rfl ?_
  refine zr_bipush (pc' := 176) dX12_init_174 rfl rfl ?_
  refine zr_bipush (pc' := 178) dX12_init_176 rfl rfl ?_
  refine zr_iast (pc' := 179) dX12_init_178 rfl (by decide) (zNk_kd (k := 113) (a := 112) rfl (by decide)) (by decide) (by decide) (by decide) (fun M35 hM35 => ?_)
  refine zr_dup (pc' := 180) dX12_init_179 rfl rfl ?_
  refine zr_bipush (pc' := 182) dX12_init_180 rfl rfl ?_
  refine zr_bipush (pc' := 184) dX12_init_182 rfl rfl ?_
  refine zr_iast (pc' := 185) dX12_init_184 rfl (by decide) (zNk_kd (k := 113) (a := 112) rfl (by decide)) (by decide) (by decide) (by decide) (fun M36 hM36 => ?_)
  refine zr_dup (pc' := 186) dX12_init_185 rfl rfl ?_
  refine zr_bipush (pc' := 188) dX12_init_186 rfl rfl ?_
  refine zr_bipush (pc' := 190) dX12_init_188 rfl rfl ?_
  refine zr_iast (pc' := 191) dX12_init_190 rfl (by decide) (zNk_kd (k := 113) (a := 112) rfl (by decide)) (by decide) (by decide) (by decide) (fun M37 hM37 => ?_)
  refine zr_dup (pc' := 192) dX12_init_191 rfl rfl ?_
  refine zr_bipush (pc' := 194) dX12_init_192 rfl rfl ?_
  refine zr_bipush (pc' := 196) dX12_init_194 rfl rfl ?_
  refine zr_iast (pc' := 197) dX12_init_196 rfl (by decide) (zNk_kd (k := 113) (a := 112) rfl (by decide)) (by decide) (by decide) (by decide) (fun M38 hM38 => ?_)
  refine zr_dup (pc' := 198) dX12_init_197 rfl rfl ?_
  refine zr_bipush (pc' := 200) dX12_init_198 rfl rfl ?_
  refine zr_bipush (pc' := 202) dX12_init_200 rfl rfl ?_
  refine zr_iast (pc' := 203) dX12_init_202 rfl (by decide) (zNk_kd (k := 113) (a := 112) rfl (by decide)) (by decide) (by decide) (by decide) (fun M39 hM39 => ?_)
  refine zr_dup (pc' := 204) dX12_init_203 rfl rfl ?_
  refine zr_bipush (pc' := 206) dX12_init_204 rfl rfl ?_
  refine zr_bipush (pc' := 208) dX12_init_206 rfl rfl ?_
  refine zr_iast (pc' := 209) dX12_init_208 rfl (by decide) (zNk_kd (k := 113) (a := 112) rfl (by decide)) (by decide) (by decide) (by decide) (fun M40 hM40 => ?_)
  refine zr_dup (pc' := 210) dX12_init_209 rfl rfl ?_
  refine zr_bipush (pc' := 212) dX12_init_210 rfl rfl ?_
  refine zr_bipush (pc' := 214) dX12_init_212 rfl rfl ?_
  refine zr_iast (pc' := 215) dX12_init_214 rfl (by decide) (zNk_kd (k := 113) (a := 112) rfl (by decide)) (by decide) (by decide) (by decide) (fun M41 hM41 => ?_)
  refine zr_dup (pc' := 216) dX12_init_215 rfl rfl ?_
  refine zr_bipush (pc' := 218) dX12_init_216 rfl rfl ?_
  refine zr_bipush (pc' := 220) dX12_init_218 rfl rfl ?_
  refine zr_iast (pc' := 221) dX12_init_220 rfl (by decide) (zNk_kd (k := 113) (a := 112) rfl (by decide)) (by decide) (by decide) (by decide) (fun M42 hM42 => ?_)
  refine zr_dup (pc' := 222) dX12_init_221 rfl rfl ?_
  refine zr_bipush (pc' := 224) dX12_init_222 rfl rfl ?_
  refine zr_bipush (pc' := 226) dX12_init_224 rfl rfl ?_
  refine zr_iast (pc' := 227) dX12_init_226 rfl (by decide) (zNk_kd (k := 113) (a := 112) rfl (by decide)) (by decide) (by decide) (by decide) (fun M43 hM43 => ?_)
  refine zr_dup (pc' := 228) dX12_init_227 rfl rfl ?_
  refine zr_bipush (pc' := 230) dX12_init_228 rfl rfl ?_
  refine zr_bipush (pc' := 232) dX12_init_230 rfl rfl ?_
  refine zr_iast (pc' := 233) dX12_init_232 rfl (by decide) (zNk_kd (k := 113) (a := 112) rfl (by decide)) (by decide) (by decide) (by decide) (fun M44 hM44 => ?_)
  refine zr_dup (pc' := 234) dX12_init_233 rfl rfl ?_
  refine zr_bipush (pc' := 236) dX12_init_234 rfl rfl ?_
  refine zr_bipush (pc' := 238) dX12_init_236 rfl rfl ?_
  refine zr_iast (pc' := 239) dX12_init_238 rfl (by decide) (zNk_kd (k := 113) (a := 112) rfl (by decide)) (by decide) (by decide) (by decide) (fun M45 hM45 => ?_)
  refine zr_dup (pc' := 240) dX12_init_239 rfl rfl ?_
  refine zr_bipush (pc' := 242) dX12_init_240 rfl rfl ?_
  refine zr_bipush (pc' := 244) dX12_init_242 rfl rfl ?_
  refine zr_iast (pc' := 245) dX12_init_244 rfl (by decide) (zNk_kd (k := 113) (a := 112) rfl (by decide)) (by decide) (by decide) (by decide) (fun M46 hM46 => ?_)
  refine zr_dup (pc' := 246) dX12_init_245 rfl rfl ?_
  refine zr_bipush (pc' := 248) dX12_init_246 rfl rfl ?_
  refine zr_bipush (pc' := 250) dX12_init_248 rfl rfl ?_
  refine zr_iast (pc' := 251) dX12_init_250 rfl (by decide) (zNk_kd (k := 113) (a := 112) rfl (by decide)) (by decide) (by decide) (by decide) (fun M47 hM47 => ?_)
  refine zr_dup (pc' := 252) dX12_init_251 rfl rfl ?_
  refine zr_bipush (pc' := 254) dX12_init_252 rfl rfl ?_
  refine zr_bipush (pc' := 256) dX12_init_254 rfl rfl ?_
  refine zr_iast (pc' := 257) dX12_init_256 rfl (by decide) (zNk_kd (k := 113) (a := 112) rfl (by decide)) (by decide) (by decide) (by decide) (fun M48 hM48 => ?_)
  refine zr_dup (pc' := 258) dX12_init_257 rfl rfl ?_
  refine zr_bipush (pc' := 260) dX12_init_258 rfl rfl ?_
  refine zr_bipush (pc' := 262) dX12_init_260 rfl rfl ?_
  refine zr_iast (pc' := 263) dX12_init_262 rfl (by decide) (zNk_kd (k := 113) (a := 112) rfl (by decide)) (by decide) (by decide) (by decide) (fun M49 hM49 => ?_)
  refine zr_dup (pc' := 264) dX12_init_263 rfl rfl ?_
  refine zr_bipush (pc' := 266) dX12_init_264 rfl rfl ?_
  refine zr_bipush (pc' := 268) dX12_init_266 rfl rfl ?_
  refine zr_iast (pc' := 269) dX12_init_268 rfl (by decide) (zNk_kd (k := 113) (a := 112) rfl (by decide)) (by decide) (by decide) (by decide) (fun M50 hM50 => ?_)
  refine zr_dup (pc' := 270) dX12_init_269 rfl rfl ?_
  refine zr_bipush (pc' := 272) dX12_init_270 rfl rfl ?_
  refine zr_bipush (pc' := 274) dX12_init_272 rfl rfl ?_
  refine zr_iast (pc' := 275) dX12_init_274 rfl (by decide) (zNk_kd (k := 113) (a := 112) rfl (by decide)) (by decide) (by decide) (by decide) (fun M51 hM51 => ?_)
  refine zr_dup (pc' := 276) dX12_init_275 rfl rfl ?_
  refine zr_bipush (pc' := 278) dX12_init_276 rfl rfl ?_
  refine zr_bipush (pc' := 280) dX12_init_278 rfl rfl ?_
  refine zr_iast (pc' := 281) dX12_init_280 rfl (by decide) (zNk_kd (k := 113) (a := 112) rfl (by decide)) (by decide) (by decide) (by decide) (fun M52 hM52 => ?_)
  refine zr_dup (pc' := 282) dX12_init_281 rfl rfl ?_
  refine zr_bipush (pc' := 284) dX12_init_282 rfl rfl ?_
  refine zr_bipush (pc' := 286) dX12_init_284 rfl rfl ?_
  refine zr_iast (pc' := 287) dX12_init_286 rfl (by decide) (zNk_kd (k := 113) (a := 112) rfl (by decide)) (by decide) (by decide) (by decide) (fun M53 hM53 => ?_)
  refine zr_dup (pc' := 288) dX12_init_287 rfl rfl ?_
  refine zr_bipush (pc' := 290) dX12_init_288 rfl rfl ?_
  refine zr_bipush (pc' := 292) dX12_init_290 rfl rfl ?_
  refine zr_iast (pc' := 293) dX12_init_292 rfl (by decide) (zNk_kd (k := 113) (a := 112) rfl (by decide)) (by decide) (by decide) (by decide) (fun M54 hM54 => ?_)
  refine zr_dup (pc' := 294) dX12_init_293 rfl rfl ?_
  refine zr_bipush (pc' := 296) dX12_init_294 rfl rfl ?_
  refine zr_bipush (pc' := 298) dX12_init_296 rfl rfl ?_
  refine zr_iast (pc' := 299) dX12_init_298 rfl (by decide) (zNk_kd (k := 113) (a := 112) rfl (by decide)) (by decide) (by decide) (by decide) (fun M55 hM55 => ?_)
  refine zr_dup (pc' := 300) dX12_init_299 rfl rfl ?_
  refine zr_bipush (pc' := 302) dX12_init_300 rfl rfl ?_
  refine zr_bipush (pc' := 304) dX12_init_302 rfl rfl ?_
  refine zr_iast (pc' := 305) dX12_init_304 rfl (by decide) (zNk_kd (k := 113) (a := 112) rfl (by decide)) (by decide) (by decide) (by decide) (fun M56 hM56 => ?_)
  refine zr_dup (pc' := 306) dX12_init_305 rfl rfl ?_
  refine zr_bipush (pc' := 308) dX12_init_306 rfl rfl ?_
  refine zr_bipush (pc' := 310) dX12_init_308 rfl rfl ?_
  refine zr_iast (pc' := 311) dX12_init_310 rfl (by decide) (zNk_kd (k := 113) (a := 112) rfl (by decide)) (by decide) (by decide) (by decide) (fun M57 hM57 => ?_)
  refine zr_dup (pc' := 312) dX12_init_311 rfl rfl ?_
  refine zr_bipush (pc' := 314) dX12_init_312 rfl rfl ?_
  refine zr_bipush (pc' := 316) dX12_init_314 rfl rfl ?_
  refine zr_iast (pc' := 317) dX12_init_316 rfl (by decide) (zNk_kd (k := 113) (a := 112) rfl (by decide)) (by decide) (by decide) (by decide) (fun M58 hM58 => ?_)
  refine zr_dup (pc' := 318) dX12_init_317 rfl rfl ?_
  refine zr_bipush (pc' := 320) dX12_init_318 rfl rfl ?_
  refine zr_bipush (pc' := 322) dX12_init_320 rfl rfl ?_
  refine zr_iast (pc' := 323) dX12_init_322 rfl (by decide) (zNk_kd (k := 113) (a := 112) rfl (by decide)) (by decide) (by decide) (by decide) (fun M59 hM59 => ?_)
  refine zr_dup (pc' := 324) dX12_init_323 rfl rfl ?_
  refine zr_bipush (pc' := 326) dX12_init_324 rfl rfl ?_
  refine zr_bipush (pc' := 328) dX12_init_326 rfl rfl ?_
  refine zr_iast (pc' := 329) dX12_init_328 rfl (by decide) (zNk_kd (k := 113) (a := 112) rfl (by decide)) (by decide) (by decide) (by decide) (fun M60 hM60 => ?_)
  refine zr_dup (pc' := 330) dX12_init_329 rfl rfl ?_
  refine zr_bipush (pc' := 332) dX12_init_330 rfl rfl ?_
  refine zr_bipush (pc' := 334) dX12_init_332 rfl rfl ?_
  refine zr_iast (pc' := 335) dX12_init_334 rfl (by decide) (zNk_kd (k := 113) (a := 112) rfl (by decide)) (by decide) (by decide) (by decide) (fun M61 hM61 => ?_)
  refine zr_dup (pc' := 336) dX12_init_335 rfl rfl ?_
  refine zr_bipush (pc' := 338) dX12_init_336 rfl rfl ?_
  refine zr_bipush (pc' := 340) dX12_init_338 rfl rfl ?_
  refine zr_iast (pc' := 341) dX12_init_340 rfl (by decide) (zNk_kd (k := 113) (a := 112) rfl (by decide)) (by decide) (by decide) (by decide) (fun M62 hM62 => ?_)
  refine zr_dup (pc' := 342) dX12_init_341 rfl rfl ?_
  refine zr_bipush (pc' := 344) dX12_init_342 rfl rfl ?_
  refine zr_bipush (pc' := 346) dX12_init_344 rfl rfl ?_
  refine zr_iast (pc' := 347) dX12_init_346 rfl (by decide) (zNk_kd (k := 113) (a := 112) rfl (by decide)) (by decide) (by decide) (by decide) (fun M63 hM63 => ?_)
  refine zr_dup (pc' := 348) dX12_init_347 rfl rfl ?_
  refine zr_bipush (pc' := 350) dX12_init_348 rfl rfl ?_
  refine zr_bipush (pc' := 352) dX12_init_350 rfl rfl ?_
  refine zr_iast (pc' := 353) dX12_init_352 rfl (by decide) (zNk_kd (k := 113) (a := 112) rfl (by decide)) (by decide) (by decide) (by decide) (fun M64 hM64 => ?_)
  refine zr_dup (pc' := 354) dX12_init_353 rfl rfl ?_
  refine zr_bipush (pc' := 356) dX12_init_354 rfl rfl ?_
  refine zr_bipush (pc' := 358) dX12_init_356 rfl rfl ?_
  refine zr_iast (pc' := 359) dX12_init_358 rfl (by decide) (zNk_kd (k := 113) (a := 112) rfl (by decide)) (by decide) (by decide) (by decide) (fun M65 hM65 => ?_)
  refine zr_dup (pc' := 360) dX12_init_359 rfl rfl ?_
  refine zr_bipush (pc' := 362) dX12_init_360 rfl rfl ?_
  refine zr_bipush (pc' := 364) dX12_init_362 rfl rfl ?_
  refine zr_iast (pc' := 365) dX12_init_364 rfl (by decide) (zNk_kd (k := 113) (a := 112) rfl (by decide)) (by decide) (by decide) (by decide) (fun M66 hM66 => ?_)
  refine zr_dup (pc' := 366) dX12_init_365 rfl rfl ?_
  refine zr_bipush (pc' := 368) dX12_init_366 rfl rfl ?_
  refine zr_bipush (pc' := 370) dX12_init_368 rfl rfl ?_
  refine zr_iast (pc' := 371) dX12_init_370 rfl (by decide) (zNk_kd (k := 113) (a := 112) rfl (by decide)) (by decide) (by decide) (by decide) (fun M67 hM67 => ?_)
  refine zr_dup (pc' := 372) dX12_init_371 rfl rfl ?_
  refine zr_bipush (pc' := 374) dX12_init_372 rfl rfl ?_
  refine zr_bipush (pc' := 376) dX12_init_374 rfl rfl ?_
  refine zr_iast (pc' := 377) dX12_init_376 rfl (by decide) (zNk_kd (k := 113) (a := 112) rfl (by decide)) (by decide) (by decide) (by decide) (fun M68 hM68 => ?_)
  refine zr_dup (pc' := 378) dX12_init_377 rfl rfl ?_
  refine zr_bipush (pc' := 380) dX12_init_378 rfl rfl ?_
  refine zr_bipush (pc' := 382) dX12_init_380 rfl rfl ?_
  refine zr_iast (pc' := 383) dX12_init_382 rfl (by decide) (zNk_kd (k := 113) (a := 112) rfl (by decide)) (by decide) (by decide) (by decide) (fun M69 hM69 => ?_)
  refine zr_dup (pc' := 384) dX12_init_383 rfl rfl ?_
  refine zr_bipush (pc' := 386) dX12_init_384 rfl rfl ?_
  refine zr_bipush (pc' := 388) dX12_init_386 rfl rfl ?_
  refine zr_iast (pc' := 389) dX12_init_388 rfl (by decide) (zNk_kd (k := 113) (a := 112) rfl (by decide)) (by decide) (by decide) (by decide) (fun M70 hM70 => ?_)
  refine zr_dup (pc' := 390) dX12_init_389 rfl rfl ?_
  refine zr_bipush (pc' := 392) dX12_init_390 rfl rfl ?_
  refine zr_bipush (pc' := 394) dX12_init_392 rfl rfl ?_
  refine zr_iast (pc' := 395) dX12_init_394 rfl (by decide) (zNk_kd (k := 113) (a := 112) rfl (by decide)) (by decide) (by decide) (by decide) (fun M71 hM71 => ?_)
  refine zr_dup (pc' := 396) dX12_init_395 rfl rfl ?_
  refine zr_bipush (pc' := 398) dX12_init_396 rfl rfl ?_
  refine zr_bipush (pc' := 400) dX12_init_398 rfl rfl ?_
  refine zr_iast (pc' := 401) dX12_init_400 rfl (by decide) (zNk_kd (k := 113) (a := 112) rfl (by decide)) (by decide) (by decide) (by decide) (fun M72 hM72 => ?_)
  refine zr_dup (pc' := 402) dX12_init_401 rfl rfl ?_
  refine zr_bipush (pc' := 404) dX12_init_402 rfl rfl ?_
  refine zr_bipush (pc' := 406) dX12_init_404 rfl rfl ?_
  refine zr_iast (pc' := 407) dX12_init_406 rfl (by decide) (zNk_kd (k := 113) (a := 112) rfl (by decide)) (by decide) (by decide) (by decide) (fun M73 hM73 => ?_)
  refine zr_dup (pc' := 408) dX12_init_407 rfl rfl ?_
  refine zr_bipush (pc' := 410) dX12_init_408 rfl rfl ?_
  refine zr_bipush (pc' := 412) dX12_init_410 rfl rfl ?_
  refine zr_iast (pc' := 413) dX12_init_412 rfl (by decide) (zNk_kd (k := 113) (a := 112) rfl (by decide)) (by decide) (by decide) (by decide) (fun M74 hM74 => ?_)
  refine zr_dup (pc' := 414) dX12_init_413 rfl rfl ?_
  refine zr_bipush (pc' := 416) dX12_init_414 rfl rfl ?_
  refine zr_bipush (pc' := 418) dX12_init_416 rfl rfl ?_
  refine zr_iast (pc' := 419) dX12_init_418 rfl (by decide) (zNk_kd (k := 113) (a := 112) rfl (by decide)) (by decide) (by decide) (by decide) (fun M75 hM75 => ?_)
  refine zr_dup (pc' := 420) dX12_init_419 rfl rfl ?_
  refine zr_bipush (pc' := 422) dX12_init_420 rfl rfl ?_
  refine zr_bipush (pc' := 424) dX12_init_422 rfl rfl ?_
  refine zr_iast (pc' := 425) dX12_init_424 rfl (by decide) (zNk_kd (k := 113) (a := 112) rfl (by decide)) (by decide) (by decide) (by decide) (fun M76 hM76 => ?_)
  refine zr_dup (pc' := 426) dX12_init_425 rfl rfl ?_
  refine zr_bipush (pc' := 428) dX12_init_426 rfl rfl ?_
  refine zr_bipush (pc' := 430) dX12_init_428 rfl rfl ?_
  refine zr_iast (pc' := 431) dX12_init_430 rfl (by decide) (zNk_kd (k := 113) (a := 112) rfl (by decide)) (by decide) (by decide) (by decide) (fun M77 hM77 => ?_)
  refine zr_dup (pc' := 432) dX12_init_431 rfl rfl ?_
  refine zr_bipush (pc' := 434) dX12_init_432 rfl rfl ?_
  refine zr_bipush (pc' := 436) dX12_init_434 rfl rfl ?_
  refine zr_iast (pc' := 437) dX12_init_436 rfl (by decide) (zNk_kd (k := 113) (a := 112) rfl (by decide)) (by decide) (by decide) (by decide) (fun M78 hM78 => ?_)
  refine zr_dup (pc' := 438) dX12_init_437 rfl rfl ?_
  refine zr_bipush (pc' := 440) dX12_init_438 rfl rfl ?_
  refine zr_bipush (pc' := 442) dX12_init_440 rfl rfl ?_
  refine zr_iast (pc' := 443) dX12_init_442 rfl (by decide) (zNk_kd (k := 113) (a := 112) rfl (by decide)) (by decide) (by decide) (by decide) (fun M79 hM79 => ?_)
  refine zr_dup (pc' := 444) dX12_init_443 rfl rfl ?_
  refine zr_bipush (pc' := 446) dX12_init_444 rfl rfl ?_
  refine zr_bipush (pc' := 448) dX12_init_446 rfl rfl ?_
  refine zr_iast (pc' := 449) dX12_init_448 rfl (by decide) (zNk_kd (k := 113) (a := 112) rfl (by decide)) (by decide) (by decide) (by decide) (fun M80 hM80 => ?_)
  refine zr_dup (pc' := 450) dX12_init_449 rfl rfl ?_
  refine zr_bipush (pc' := 452) dX12_init_450 rfl rfl ?_
  refine zr_bipush (pc' := 454) dX12_init_452 rfl rfl ?_
  refine zr_iast (pc' := 455) dX12_init_454 rfl (by decide) (zNk_kd (k := 113) (a := 112) rfl (by decide)) (by decide) (by decide) (by decide) (fun M81 hM81 => ?_)
  refine zr_dup (pc' := 456) dX12_init_455 rfl rfl ?_
  refine zr_bipush (pc' := 458) dX12_init_456 rfl rfl ?_
  refine zr_bipush (pc' := 460) dX12_init_458 rfl rfl ?_
  refine zr_iast (pc' := 461) dX12_init_460 rfl (by decide) (zNk_kd (k := 113) (a := 112) rfl (by decide)) (by decide) (by decide) (by decide) (fun M82 hM82 => ?_)
  refine zr_dup (pc' := 462) dX12_init_461 rfl rfl ?_
  refine zr_bipush (pc' := 464) dX12_init_462 rfl rfl ?_
  refine zr_bipush (pc' := 466) dX12_init_464 rfl rfl ?_
  refine zr_iast (pc' := 467) dX12_init_466 rfl (by decide) (zNk_kd (k := 113) (a := 112) rfl (by decide)) (by decide) (by decide) (by decide) (fun M83 hM83 => ?_)
  refine zr_dup (pc' := 468) dX12_init_467 rfl rfl ?_
  refine zr_bipush (pc' := 470) dX12_init_468 rfl rfl ?_
  refine zr_bipush (pc' := 472) dX12_init_470 rfl rfl ?_
  refine zr_iast (pc' := 473) dX12_init_472 rfl (by decide) (zNk_kd (k := 113) (a := 112) rfl (by decide)) (by decide) (by decide) (by decide) (fun M84 hM84 => ?_)
  refine zr_dup (pc' := 474) dX12_init_473 rfl rfl ?_
  refine zr_bipush (pc' := 476) dX12_init_474 rfl rfl ?_
  refine zr_bipush (pc' := 478) dX12_init_476 rfl rfl ?_
  refine zr_iast (pc' := 479) dX12_init_478 rfl (by decide) (zNk_kd (k := 113) (a := 112) rfl (by decide)) (by decide) (by decide) (by decide) (fun M85 hM85 => ?_)
  refine zr_dup (pc' := 480) dX12_init_479 rfl rfl ?_
  refine zr_bipush (pc' := 482) dX12_init_480 rfl rfl ?_
  refine zr_bipush (pc' := 484) dX12_init_482 rfl rfl ?_
  refine zr_iast (pc' := 485) dX12_init_484 rfl (by decide) (zNk_kd (k := 113) (a := 112) rfl (by decide)) (by decide) (by decide) (by decide) (fun M86 hM86 => ?_)
  refine zr_dup (pc' := 486) dX12_init_485 rfl rfl ?_
  refine zr_bipush (pc' := 488) dX12_init_486 rfl rfl ?_
  refine zr_bipush (pc' := 490) dX12_init_488 rfl rfl ?_
  refine zr_iast (pc' := 491) dX12_init_490 rfl (by decide) (zNk_kd (k := 113) (a := 112) rfl (by decide)) (by decide) (by decide) (by decide) (fun M87 hM87 => ?_)
  refine zr_dup (pc' := 492) dX12_init_491 rfl rfl ?_
  refine zr_bipush (pc' := 494) dX12_init_492 rfl rfl ?_
  refine zr_bipush (pc' := 496) dX12_init_494 rfl rfl ?_
  refine zr_iast (pc' := 497) dX12_init_496 rfl (by decide) (zNk_kd (k := 113) (a := 112) rfl (by decide)) (by decide) (by decide) (by decide) (fun M88 hM88 => ?_)
  refine zr_dup (pc' := 498) dX12_init_497 rfl rfl ?_
  refine zr_bipush (pc' := 500) dX12_init_498 rfl rfl ?_
  refine zr_bipush (pc' := 502) dX12_init_500 rfl rfl ?_
  refine zr_iast (pc' := 503) dX12_init_502 rfl (by decide) (zNk_kd (k := 113) (a := 112) rfl (by decide)) (by decide) (by decide) (by decide) (fun M89 hM89 => ?_)
  refine zr_dup (pc' := 504) dX12_init_503 rfl rfl ?_
  refine zr_bipush (pc' := 506) dX12_init_504 rfl rfl ?_
  refine zr_bipush (pc' := 508) dX12_init_506 rfl rfl ?_
  refine zr_iast (pc' := 509) dX12_init_508 rfl (by decide) (zNk_kd (k := 113) (a := 112) rfl (by decide)) (by decide) (by decide) (by decide) (fun M90 hM90 => ?_)
  refine zr_dup (pc' := 510) dX12_init_509 rfl rfl ?_
  refine zr_bipush (pc' := 512) dX12_init_510 rfl rfl ?_
  refine zr_bipush (pc' := 514) dX12_init_512 rfl rfl ?_
  refine zr_iast (pc' := 515) dX12_init_514 rfl (by decide) (zNk_kd (k := 113) (a := 112) rfl (by decide)) (by decide) (by decide) (by decide) (fun M91 hM91 => ?_)
  refine zr_dup (pc' := 516) dX12_init_515 rfl rfl ?_
  refine zr_bipush (pc' := 518) dX12_init_516 rfl rfl ?_
  refine zr_bipush (pc' := 520) dX12_init_518 rfl rfl ?_
  refine zr_iast (pc' := 521) dX12_init_520 rfl (by decide) (zNk_kd (k := 113) (a := 112) rfl (by decide)) (by decide) (by decide) (by decide) (fun M92 hM92 => ?_)
  refine zr_dup (pc' := 522) dX12_init_521 rfl rfl ?_
  refine zr_bipush (pc' := 524) dX12_init_522 rfl rfl ?_
  refine zr_bipush (pc' := 526) dX12_init_524 rfl rfl ?_
  refine zr_iast (pc' := 527) dX12_init_526 rfl (by decide) (zNk_kd (k := 113) (a := 112) rfl (by decide)) (by decide) (by decide) (by decide) (fun M93 hM93 => ?_)
  refine zr_dup (pc' := 528) dX12_init_527 rfl rfl ?_
  refine zr_bipush (pc' := 530) dX12_init_528 rfl rfl ?_
  refine zr_bipush (pc' := 532) dX12_init_530 rfl rfl ?_
  refine zr_iast (pc' := 533) dX12_init_532 rfl (by decide) (zNk_kd (k := 113) (a := 112) rfl (by decide)) (by decide) (by decide) (by decide) (fun M94 hM94 => ?_)
  refine zr_dup (pc' := 534) dX12_init_533 rfl rfl ?_
  refine zr_bipush (pc' := 536) dX12_init_534 rfl rfl ?_
  refine zr_bipush (pc' := 538) dX12_init_536 rfl rfl ?_
  refine zr_iast (pc' := 539) dX12_init_538 rfl (by decide) (zNk_kd (k := 113) (a := 112) rfl (by decide)) (by decide) (by decide) (by decide) (fun M95 hM95 => ?_)
  refine zr_dup (pc' := 540) dX12_init_539 rfl rfl ?_
  refine zr_bipush (pc' := 542) dX12_init_540 rfl rfl ?_
  refine zr_bipush (pc' := 544) dX12_init_542 rfl rfl ?_
  refine zr_iast (pc' := 545) dX12_init_544 rfl (by decide) (zNk_kd (k := 113) (a := 112) rfl (by decide)) (by decide) (by decide) (by decide) (fun M96 hM96 => ?_)
  refine zr_putF (pc' := 548) (x := 112) dX12_init_545 rfl (by decide) (zNk_kd (k := 113) (a := 102) rfl (by decide)) fl_X12_38 kc_12 rfl rfl rfl rfl rfl trivial (fun M97 hM97 => ?_)
  refine zr_aload_n (pc' := 549) (i := 0) dX12_init_548 rfl rfl rfl ?_
  refine zr_iconst (pc' := 550) dX12_init_549 rfl ?_
  refine zr_put (pc' := 553) (x := (-1)) dX12_init_550 rfl (by decide) (zNk_kd (k := 113) (a := 102) rfl (by decide)) fl_X12_41 kc_12 rfl rfl rfl trivial (fun M98 hM98 => ?_)
  refine zr_aload_n (pc' := 554) (i := 0) dX12_init_553 rfl rfl rfl ?_
  refine zr_sipush (pc' := 557) dX12_init_554 rfl rfl ?_
  refine zk_newa (k := 113) (k' := 114) (n := 128) (t0 := 0) (cu' := (11, 4313)) (pc' := 559) dX12_init_557 rfl rfl rfl rfl (Or.inl ⟨rfl, rfl⟩) (fun _ => rfl) (zi 1 72 rfl rfl) (by decide) rfl (Nat.le_of_ble_eq_true rfl) (Nat.le_of_ble_eq_true rfl) (fun M99 hM99 => ?_)
  refine zr_putF (pc' := 562) (x := 113) dX12_init_559 rfl (by decide) (zNk_kd (k := 114) (a := 102) rfl (by decide)) fl_X12_45 kc_12 rfl rfl rfl rfl rfl trivial (fun M100 hM100 => ?_)
  refine zr_aload_n (pc' := 563) (i := 0) dX12_init_562 rfl rfl rfl ?_
  refine zr_sipush (pc' := 566) dX12_init_563 rfl rfl ?_
  refine zk_newa (k := 114) (k' := 115) (n := 128) (t0 := 0) (cu' := (12, 4441)) (pc' := 568) dX12_init_566 rfl rfl rfl rfl (Or.inl ⟨rfl, rfl⟩) (fun _ => rfl) (zi 1 72 rfl rfl) (by decide) rfl (Nat.le_of_ble_eq_true rfl) (Nat.le_of_ble_eq_true rfl) (fun M101 hM101 => ?_)
  refine zr_putF (pc' := 571) (x := 114) dX12_init_568 rfl (by decide) (zNk_kd (k := 115) (a := 102) rfl (by decide)) fl_X12_48 kc_12 rfl rfl rfl rfl rfl trivial (fun M102 hM102 => ?_)
  refine zr_aload_n (pc' := 572) (i := 0) dX12_init_571 rfl rfl rfl ?_
  refine zr_sipush (pc' := 575) dX12_init_572 rfl rfl ?_
  refine zk_newa (k := 115) (k' := 116) (n := 128) (t0 := 0) (cu' := (13, 4569)) (pc' := 577) dX12_init_575 rfl rfl rfl rfl (Or.inl ⟨rfl, rfl⟩) (fun _ => rfl) (zi 1 72 rfl rfl) (by decide) rfl (Nat.le_of_ble_eq_true rfl) (Nat.le_of_ble_eq_true rfl) (fun M103 hM103 => ?_)
  refine zr_putF (pc' := 580) (x := 115) dX12_init_577 rfl (by decide) (zNk_kd (k := 116) (a := 102) rfl (by decide)) fl_X12_51 kc_12 rfl rfl rfl rfl rfl trivial (fun M104 hM104 => ?_)
  refine zr_aload_n (pc' := 581) (i := 0) dX12_init_580 rfl rfl rfl ?_
  refine zr_sipush (pc' := 584) dX12_init_581 rfl rfl ?_
  refine zk_newa (k := 116) (k' := 117) (n := 128) (t0 := 0) (cu' := (14, 4697)) (pc' := 586) dX12_init_584 rfl rfl rfl rfl (Or.inl ⟨rfl, rfl⟩) (fun _ => rfl) (zi 1 72 rfl rfl) (by decide) rfl (Nat.le_of_ble_eq_true rfl) (Nat.le_of_ble_eq_true rfl) (fun M105 hM105 => ?_)
  refine zr_putF (pc' := 589) (x := 116) dX12_init_586 rfl (by decide) (zNk_kd (k := 117) (a := 102) rfl (by decide)) fl_X12_54 kc_12 rfl rfl rfl rfl rfl trivial (fun M106 hM106 => ?_)
  refine zr_aload_n (pc' := 590) (i := 0) dX12_init_589 rfl rfl rfl ?_
  refine zr_sipush (pc' := 593) dX12_init_590 rfl rfl ?_
  refine zk_newa (k := 117) (k' := 118) (n := 128) (t0 := 0) (cu' := (15, 4825)) (pc' := 595) dX12_init_593 rfl rfl rfl rfl (Or.inl ⟨rfl, rfl⟩) (fun _ => rfl) (zi 1 72 rfl rfl) (by decide) rfl (Nat.le_of_ble_eq_true rfl) (Nat.le_of_ble_eq_true rfl) (fun M107 hM107 => ?_)
  refine zr_putF (pc' := 598) (x := 117) dX12_init_595 rfl (by decide) (zNk_kd (k := 118) (a := 102) rfl (by decide)) fl_X12_57 kc_12 rfl rfl rfl rfl rfl trivial (fun M108 hM108 => ?_)
  refine zr_aload_n (pc' := 599) (i := 0) dX12_init_598 rfl rfl rfl ?_
  refine zr_sipush (pc' := 602) dX12_init_599 rfl rfl ?_
  refine zk_newa (k := 118) (k' := 119) (n := 128) (t0 := 0) (cu' := (16, 4953)) (pc' := 604) dX12_init_602 rfl rfl rfl rfl (Or.inl ⟨rfl, rfl⟩) (fun _ => rfl) (zi 1 72 rfl rfl) (by decide) rfl (Nat.le_of_ble_eq_true rfl) (Nat.le_of_ble_eq_true rfl) (fun M109 hM109 => ?_)
  refine zr_putF (pc' := 607) (x := 118) dX12_init_604 rfl (by decide) (zNk_kd (k := 119) (a := 102) rfl (by decide)) fl_X12_60 kc_12 rfl rfl rfl rfl rfl trivial (fun M110 hM110 => ?_)
  refine zr_aload_n (pc' := 608) (i := 0) dX12_init_607 rfl rfl rfl ?_
  refine zr_sipush (pc' := 611) dX12_init_608 rfl rfl ?_
  refine zk_newa (k := 119) (k' := 120) (n := 128) (t0 := 0) (cu' := (17, 5081)) (pc' := 613) dX12_init_611 rfl rfl rfl rfl (Or.inl ⟨rfl, rfl⟩) (fun _ => rfl) (zi 1 72 rfl rfl) (by decide) rfl (Nat.le_of_ble_eq_true rfl) (Nat.le_of_ble_eq_true rfl) (fun M111 hM111 => ?_)
  refine zr_putF (pc' := 616) (x := 119) dX12_init_613 rfl (by decide) (zNk_kd (k := 120) (a := 102) rfl (by decide)) fl_X12_63 kc_12 rfl rfl rfl rfl rfl trivial (fun M112 hM112 => ?_)
  refine zr_aload_n (pc' := 617) (i := 0) dX12_init_616 rfl rfl rfl ?_
  refine zr_bipush (pc' := 619) dX12_init_617 rfl rfl ?_
  refine zk_newa (k := 120) (k' := 121) (n := 24) (t0 := 0) (cu' := (18, 5105)) (pc' := 621) dX12_init_619 rfl rfl rfl rfl (Or.inl ⟨rfl, rfl⟩) (fun _ => rfl) (zi 1 72 rfl rfl) (by decide) rfl (Nat.le_of_ble_eq_true rfl) (Nat.le_of_ble_eq_true rfl) (fun M113 hM113 => ?_)
  refine zr_putF (pc' := 624) (x := 120) dX12_init_621 rfl (by decide) (zNk_kd (k := 121) (a := 102) rfl (by decide)) fl_X12_66 kc_12 rfl rfl rfl rfl rfl trivial (fun M114 hM114 => ?_)
  refine zr_aload_n (pc' := 625) (i := 0) dX12_init_624 rfl rfl rfl ?_
  refine zr_bipush (pc' := 627) dX12_init_625 rfl rfl ?_
  refine zk_newa (k := 121) (k' := 122) (n := 24) (t0 := 0) (cu' := (19, 5129)) (pc' := 629) dX12_init_627 rfl rfl rfl rfl (Or.inl ⟨rfl, rfl⟩) (fun _ => rfl) (zi 1 72 rfl rfl) (by decide) rfl (Nat.le_of_ble_eq_true rfl) (Nat.le_of_ble_eq_true rfl) (fun M115 hM115 => ?_)
  refine zr_putF (pc' := 632) (x := 121) dX12_init_629 rfl (by decide) (zNk_kd (k := 122) (a := 102) rfl (by decide)) fl_X12_69 kc_12 rfl rfl rfl rfl rfl trivial (fun M116 hM116 => ?_)
  refine zr_aload_n (pc' := 633) (i := 0) dX12_init_632 rfl rfl rfl ?_
  refine zr_bipush (pc' := 635) dX12_init_633 rfl rfl ?_
  refine zk_newa (k := 122) (k' := 123) (n := 24) (t0 := 0) (cu' := (20, 5153)) (pc' := 637) dX12_init_635 rfl rfl rfl rfl (Or.inl ⟨rfl, rfl⟩) (fun _ => rfl) (zi 1 72 rfl rfl) (by decide) rfl (Nat.le_of_ble_eq_true rfl) (Nat.le_of_ble_eq_true rfl) (fun M117 hM117 => ?_)
  refine zr_putF (pc' := 640) (x := 122) dX12_init_637 rfl (by decide) (zNk_kd (k := 123) (a := 102) rfl (by decide)) fl_X12_72 kc_12 rfl rfl rfl rfl rfl trivial (fun M118 hM118 => ?_)
  refine zr_aload_n (pc' := 641) (i := 0) dX12_init_640 rfl rfl rfl ?_
  refine zr_bipush (pc' := 643) dX12_init_641 rfl rfl ?_
  refine zk_newa (k := 123) (k' := 124) (n := 100) (t0 := 0) (cu' := (21, 5253)) (pc' := 645) dX12_init_643 rfl rfl rfl rfl (Or.inl ⟨rfl, rfl⟩) (fun _ => rfl) (zi 1 72 rfl rfl) (by decide) rfl (Nat.le_of_ble_eq_true rfl) (Nat.le_of_ble_eq_true rfl) (fun M119 hM119 => ?_)
  refine zr_putF (pc' := 648) (x := 123) dX12_init_645 rfl (by decide) (zNk_kd (k := 124) (a := 102) rfl (by decide)) fl_X12_75 kc_12 rfl rfl rfl rfl rfl trivial (fun M120 hM120 => ?_)
  refine zr_aload_n (pc' := 649) (i := 0) dX12_init_648 rfl rfl rfl ?_
  refine zr_bipush (pc' := 651) dX12_init_649 rfl rfl ?_
  refine zk_newa (k := 124) (k' := 125) (n := 100) (t0 := 0) (cu' := (22, 5353)) (pc' := 653) dX12_init_651 rfl rfl rfl rfl (Or.inl ⟨rfl, rfl⟩) (fun _ => rfl) (zi 1 72 rfl rfl) (by decide) rfl (Nat.le_of_ble_eq_true rfl) (Nat.le_of_ble_eq_true rfl) (fun M121 hM121 => ?_)
  refine zr_putF (pc' := 656) (x := 124) dX12_init_653 rfl (by decide) (zNk_kd (k := 125) (a := 102) rfl (by decide)) fl_X12_78 kc_12 rfl rfl rfl rfl rfl trivial (fun M122 hM122 => ?_)
  refine zr_aload_n (pc' := 657) (i := 0) dX12_init_656 rfl rfl rfl ?_
  refine zr_bipush (pc' := 659) dX12_init_657 rfl rfl ?_
  refine zk_newa (k := 125) (k' := 126) (n := 100) (t0 := 0) (cu' := (23, 5453)) (pc' := 661) dX12_init_659 rfl rfl rfl rfl (Or.inl ⟨rfl, rfl⟩) (fun _ => rfl) (zi 1 72 rfl rfl) (by decide) rfl (Nat.le_of_ble_eq_true rfl) (Nat.le_of_ble_eq_true rfl) (fun M123 hM123 => ?_)
  refine zr_putF (pc' := 664) (x := 125) dX12_init_661 rfl (by decide) (zNk_kd (k := 126) (a := 102) rfl (by decide)) fl_X12_81 kc_12 rfl rfl rfl rfl rfl trivial (fun M124 hM124 => ?_)
  refine zr_aload_n (pc' := 665) (i := 0) dX12_init_664 rfl rfl rfl ?_
  refine zr_bipush (pc' := 667) dX12_init_665 rfl rfl ?_
  refine zk_newa (k := 126) (k' := 127) (n := 8) (t0 := 2) (cu' := (24, 5461)) (pc' := 669) dX12_init_667 rfl rfl rfl rfl (Or.inr (Or.inr ⟨rfl, rfl⟩)) (fun _ => rfl) (zi 1 116 rfl rfl) (by decide) rfl (Nat.le_of_ble_eq_true rfl) (Nat.le_of_ble_eq_true rfl) (fun M125 hM125 => ?_)
  refine zr_putF (pc' := 672) (x := 126) dX12_init_669 rfl (by decide) (zNk_kd (k := 127) (a := 102) rfl (by decide)) fl_X12_84 kc_12 rfl rfl rfl rfl rfl trivial (fun M126 hM126 => ?_)
  refine zr_aload_n (pc' := 673) (i := 0) dX12_init_672 rfl rfl rfl ?_
  refine zr_bipush (pc' := 675) dX12_init_673 rfl rfl ?_
  refine zk_newa (k := 127) (k' := 128) (n := 64) (t0 := 1) (cu' := (25, 5525)) (pc' := 677) dX12_init_675 rfl rfl rfl rfl (Or.inr (Or.inl ⟨rfl, rfl⟩)) (fun _ => rfl) (zi 1 167 rfl rfl) (by decide) rfl (Nat.le_of_ble_eq_true rfl) (Nat.le_of_ble_eq_true rfl) (fun M127 hM127 => ?_)
  refine zr_putF (pc' := 680) (x := 127) dX12_init_677 rfl (by decide) (zNk_kd (k := 128) (a := 102) rfl (by decide)) fl_X12_87 kc_12 rfl rfl rfl rfl rfl trivial (fun M128 hM128 => ?_)
  refine zr_aload_n (pc' := 681) (i := 0) dX12_init_680 rfl rfl rfl ?_
  refine zr_iconst (pc' := 682) dX12_init_681 rfl ?_
  refine zr_put (pc' := 685) (x := 4) dX12_init_682 rfl (by decide) (zNk_kd (k := 128) (a := 102) rfl (by decide)) fl_X12_91 kc_12 rfl rfl rfl trivial (fun M129 hM129 => ?_)
  refine zr_aload_n (pc' := 686) (i := 0) dX12_init_685 rfl rfl rfl ?_
  refine zr_iconst (pc' := 687) dX12_init_686 rfl ?_
  refine zr_put (pc' := 690) (x := 4) dX12_init_687 rfl (by decide) (zNk_kd (k := 128) (a := 102) rfl (by decide)) fl_X12_94 kc_12 rfl rfl rfl trivial (fun M130 hM130 => ?_)
  refine zr_aload_n (pc' := 691) (i := 0) dX12_init_690 rfl rfl rfl ?_
  refine zr_bipush (pc' := 693) dX12_init_691 rfl rfl ?_
  refine zk_newa (k := 128) (k' := 129) (n := 64) (t0 := 0) (cu' := (26, 5589)) (pc' := 695) dX12_init_693 rfl rfl rfl rfl (Or.inl ⟨rfl, rfl⟩) (fun _ => rfl) (zi 1 72 rfl rfl) (by decide) rfl (Nat.le_of_ble_eq_true rfl) (Nat.le_of_ble_eq_true rfl) (fun M131 hM131 => ?_)
  refine zr_putF (pc' := 698) (x := 128) dX12_init_695 rfl (by decide) (zNk_kd (k := 129) (a := 102) rfl (by decide)) fl_X12_97 kc_12 rfl rfl rfl rfl rfl trivial (fun M132 hM132 => ?_)
  refine zr_aload_n (pc' := 699) (i := 0) dX12_init_698 rfl rfl rfl ?_
  refine zr_bipush (pc' := 701) dX12_init_699 rfl rfl ?_
  refine zk_newa (k := 129) (k' := 130) (n := 64) (t0 := 0) (cu' := (27, 5653)) (pc' := 703) dX12_init_701 rfl rfl rfl rfl (Or.inl ⟨rfl, rfl⟩) (fun _ => rfl) (zi 1 72 rfl rfl) (by decide) rfl (Nat.le_of_ble_eq_true rfl) (Nat.le_of_ble_eq_true rfl) (fun M133 hM133 => ?_)
  refine zr_putF (pc' := 706) (x := 129) dX12_init_703 rfl (by decide) (zNk_kd (k := 130) (a := 102) rfl (by decide)) fl_X12_100 kc_12 rfl rfl rfl rfl rfl trivial (fun M134 hM134 => ?_)
  refine zr_aload_n (pc' := 707) (i := 0) dX12_init_706 rfl rfl rfl ?_
  refine zr_bipush (pc' := 709) dX12_init_707 rfl rfl ?_
  refine zk_newa (k := 130) (k' := 131) (n := 64) (t0 := 2) (cu' := (28, 5717)) (pc' := 711) dX12_init_709 rfl rfl rfl rfl (Or.inr (Or.inr ⟨rfl, rfl⟩)) (fun _ => rfl) (zi 1 116 rfl rfl) (by decide) rfl (Nat.le_of_ble_eq_true rfl) (Nat.le_of_ble_eq_true rfl) (fun M135 hM135 => ?_)
  refine zr_putF (pc' := 714) (x := 130) dX12_init_711 rfl (by decide) (zNk_kd (k := 131) (a := 102) rfl (by decide)) fl_X12_103 kc_12 rfl rfl rfl rfl rfl trivial (fun M136 hM136 => ?_)
  refine zr_aload_n (pc' := 715) (i := 0) dX12_init_714 rfl rfl rfl ?_
  refine zr_bipush (pc' := 717) dX12_init_715 rfl rfl ?_
  refine zk_newa (k := 131) (k' := 132) (n := 64) (t0 := 2) (cu' := (29, 5781)) (pc' := 719) dX12_init_717 rfl rfl rfl rfl (Or.inr (Or.inr ⟨rfl, rfl⟩)) (fun _ => rfl) (zi 1 116 rfl rfl) (by decide) rfl (Nat.le_of_ble_eq_true rfl) (Nat.le_of_ble_eq_true rfl) (fun M137 hM137 => ?_)
  refine zr_putF (pc' := 722) (x := 131) dX12_init_719 rfl (by decide) (zNk_kd (k := 132) (a := 102) rfl (by decide)) fl_X12_106 kc_12 rfl rfl rfl rfl rfl trivial (fun M138 hM138 => ?_)
  refine zr_aload_n (pc' := 723) (i := 0) dX12_init_722 rfl rfl rfl ?_
  refine zr_iconst (pc' := 724) dX12_init_723 rfl ?_
  refine zk_newa (k := 132) (k' := 133) (n := 3) (t0 := 0) (cu' := (30, 5784)) (pc' := 726) dX12_init_724 rfl rfl rfl rfl (Or.inl ⟨rfl, rfl⟩) (fun _ => rfl) (zi 1 72 rfl rfl) (by decide) rfl (Nat.le_of_ble_eq_true rfl) (Nat.le_of_ble_eq_true rfl) (fun M139 hM139 => ?_)
  refine zr_putF (pc' := 729) (x := 132) dX12_init_726 rfl (by decide) (zNk_kd (k := 133) (a := 102) rfl (by decide)) fl_X12_109 kc_12 rfl rfl rfl rfl rfl trivial (fun M140 hM140 => ?_)
  refine zr_aload_n (pc' := 730) (i := 0) dX12_init_729 rfl rfl rfl ?_
  refine zr_iconst (pc' := 731) dX12_init_730 rfl ?_
  refine zk_newa (k := 133) (k' := 134) (n := 3) (t0 := 0) (cu' := (31, 5787)) (pc' := 733) dX12_init_731 rfl rfl rfl rfl (Or.inl ⟨rfl, rfl⟩) (fun _ => rfl) (zi 1 72 rfl rfl) (by decide) rfl (Nat.le_of_ble_eq_true rfl) (Nat.le_of_ble_eq_true rfl) (fun M141 hM141 => ?_)
  refine zr_putF (pc' := 736) (x := 133) dX12_init_733 rfl (by decide) (zNk_kd (k := 134) (a := 102) rfl (by decide)) fl_X12_112 kc_12 rfl rfl rfl rfl rfl trivial (fun M142 hM142 => ?_)
  refine zr_aload_n (pc' := 737) (i := 0) dX12_init_736 rfl rfl rfl ?_
  refine zr_iconst (pc' := 738) dX12_init_737 rfl ?_
  refine zk_newa (k := 134) (k' := 135) (n := 3) (t0 := 0) (cu' := (32, 5790)) (pc' := 740) dX12_init_738 rfl rfl rfl rfl (Or.inl ⟨rfl, rfl⟩) (fun _ => rfl) (zi 1 72 rfl rfl) (by decide) rfl (Nat.le_of_ble_eq_true rfl) (Nat.le_of_ble_eq_true rfl) (fun M143 hM143 => ?_)
  refine zr_putF (pc' := 743) (x := 134) dX12_init_740 rfl (by decide) (zNk_kd (k := 135) (a := 102) rfl (by decide)) fl_X12_115 kc_12 rfl rfl rfl rfl rfl trivial (fun M144 hM144 => ?_)
  refine zr_aload_n (pc' := 744) (i := 0) dX12_init_743 rfl rfl rfl ?_
  refine zr_iconst (pc' := 745) dX12_init_744 rfl ?_
  refine zk_newa (k := 135) (k' := 136) (n := 3) (t0 := 0) (cu' := (33, 5793)) (pc' := 747) dX12_init_745 rfl rfl rfl rfl (Or.inl ⟨rfl, rfl⟩) (fun _ => rfl) (zi 1 72 rfl rfl) (by decide) rfl (Nat.le_of_ble_eq_true rfl) (Nat.le_of_ble_eq_true rfl) (fun M145 hM145 => ?_)
  refine zr_putF (pc' := 750) (x := 135) dX12_init_747 rfl (by decide) (zNk_kd (k := 136) (a := 102) rfl (by decide)) fl_X12_118 kc_12 rfl rfl rfl rfl rfl trivial (fun M146 hM146 => ?_)
  refine zr_aload_n (pc' := 751) (i := 0) dX12_init_750 rfl rfl rfl ?_
  refine zr_iconst (pc' := 752) dX12_init_751 rfl ?_
  refine zk_newa (k := 136) (k' := 137) (n := 3) (t0 := 0) (cu' := (34, 5796)) (pc' := 754) dX12_init_752 rfl rfl rfl rfl (Or.inl ⟨rfl, rfl⟩) (fun _ => rfl) (zi 1 72 rfl rfl) (by decide) rfl (Nat.le_of_ble_eq_true rfl) (Nat.le_of_ble_eq_true rfl) (fun M147 hM147 => ?_)
  refine zr_putF (pc' := 757) (x := 136) dX12_init_754 rfl (by decide) (zNk_kd (k := 137) (a := 102) rfl (by decide)) fl_X12_121 kc_12 rfl rfl rfl rfl rfl trivial (fun M148 hM148 => ?_)
  refine zr_aload_n (pc' := 758) (i := 0) dX12_init_757 rfl rfl rfl ?_
  refine zr_sipush (pc' := 761) dX12_init_758 rfl rfl ?_
  refine zk_newa (k := 137) (k' := 138) (n := 832) (t0 := 0) (cu' := (35, 6628)) (pc' := 763) dX12_init_761 rfl rfl rfl rfl (Or.inl ⟨rfl, rfl⟩) (fun _ => rfl) (zi 1 72 rfl rfl) (by decide) rfl (Nat.le_of_ble_eq_true rfl) (Nat.le_of_ble_eq_true rfl) (fun M149 hM149 => ?_)
  refine zr_putF (pc' := 766) (x := 137) dX12_init_763 rfl (by decide) (zNk_kd (k := 138) (a := 102) rfl (by decide)) fl_X12_124 kc_12 rfl rfl rfl rfl rfl trivial (fun M150 hM150 => ?_)
  refine zr_aload_n (pc' := 767) (i := 0) dX12_init_766 rfl rfl rfl ?_
  refine zr_sipush (pc' := 770) dX12_init_767 rfl rfl ?_
  refine zk_newa (k := 138) (k' := 139) (n := 832) (t0 := 0) (cu' := (36, 7460)) (pc' := 772) dX12_init_770 rfl rfl rfl rfl (Or.inl ⟨rfl, rfl⟩) (fun _ => rfl) (zi 1 72 rfl rfl) (by decide) rfl (Nat.le_of_ble_eq_true rfl) (Nat.le_of_ble_eq_true rfl) (fun M151 hM151 => ?_)
  refine zr_putF (pc' := 775) (x := 138) dX12_init_772 rfl (by decide) (zNk_kd (k := 139) (a := 102) rfl (by decide)) fl_X12_127 kc_12 rfl rfl rfl rfl rfl trivial (fun M152 hM152 => ?_)
  refine zr_aload_n (pc' := 776) (i := 0) dX12_init_775 rfl rfl rfl ?_
  refine zr_bipush (pc' := 778) dX12_init_776 rfl rfl ?_
  refine zk_newa (k := 139) (k' := 140) (n := 64) (t0 := 0) (cu' := (37, 7524)) (pc' := 780) dX12_init_778 rfl rfl rfl rfl (Or.inl ⟨rfl, rfl⟩) (fun _ => rfl) (zi 1 72 rfl rfl) (by decide) rfl (Nat.le_of_ble_eq_true rfl) (Nat.le_of_ble_eq_true rfl) (fun M153 hM153 => ?_)
  refine zr_putF (pc' := 783) (x := 139) dX12_init_780 rfl (by decide) (zNk_kd (k := 140) (a := 102) rfl (by decide)) fl_X12_130 kc_12 rfl rfl rfl rfl rfl trivial (fun M154 hM154 => ?_)
  refine zr_aload_n (pc' := 784) (i := 0) dX12_init_783 rfl rfl rfl ?_
  refine zr_bipush (pc' := 786) dX12_init_784 rfl rfl ?_
  refine zk_newa (k := 140) (k' := 141) (n := 64) (t0 := 0) (cu' := (38, 7588)) (pc' := 788) dX12_init_786 rfl rfl rfl rfl (Or.inl ⟨rfl, rfl⟩) (fun _ => rfl) (zi 1 72 rfl rfl) (by decide) rfl (Nat.le_of_ble_eq_true rfl) (Nat.le_of_ble_eq_true rfl) (fun M155 hM155 => ?_)
  refine zr_putF (pc' := 791) (x := 140) dX12_init_788 rfl (by decide) (zNk_kd (k := 141) (a := 102) rfl (by decide)) fl_X12_133 kc_12 rfl rfl rfl rfl rfl trivial (fun M156 hM156 => ?_)
  refine zr_aload_n (pc' := 792) (i := 0) dX12_init_791 rfl rfl rfl ?_
  refine zr_bipush (pc' := 794) dX12_init_792 rfl rfl ?_
  refine zk_newa (k := 141) (k' := 142) (n := 64) (t0 := 0) (cu' := (39, 7652)) (pc' := 796) dX12_init_794 rfl rfl rfl rfl (Or.inl ⟨rfl, rfl⟩) (fun _ => rfl) (zi 1 72 rfl rfl) (by decide) rfl (Nat.le_of_ble_eq_true rfl) (Nat.le_of_ble_eq_true rfl) (fun M157 hM157 => ?_)
  refine zr_putF (pc' := 799) (x := 141) dX12_init_796 rfl (by decide) (zNk_kd (k := 142) (a := 102) rfl (by decide)) fl_X12_136 kc_12 rfl rfl rfl rfl rfl trivial (fun M158 hM158 => ?_)
  refine zr_aload_n (pc' := 800) (i := 0) dX12_init_799 rfl rfl rfl ?_
  refine zr_bipush (pc' := 802) dX12_init_800 rfl rfl ?_
  refine zk_newa (k := 142) (k' := 143) (n := 8) (t0 := 2) (cu' := (40, 7660)) (pc' := 804) dX12_init_802 rfl rfl rfl rfl (Or.inr (Or.inr ⟨rfl, rfl⟩)) (fun _ => rfl) (zi 1 116 rfl rfl) (by decide) rfl (Nat.le_of_ble_eq_true rfl) (Nat.le_of_ble_eq_true rfl) (fun M159 hM159 => ?_)
  refine zr_putF (pc' := 807) (x := 142) dX12_init_804 rfl (by decide) (zNk_kd (k := 143) (a := 102) rfl (by decide)) fl_X12_139 kc_12 rfl rfl rfl rfl rfl trivial (fun M160 hM160 => ?_)
  refine zr_aload_n (pc' := 808) (i := 0) dX12_init_807 rfl rfl rfl ?_
  refine zr_bipush (pc' := 810) dX12_init_808 rfl rfl ?_
  refine zk_newa (k := 143) (k' := 144) (n := 8) (t0 := 0) (cu' := (41, 7668)) (pc' := 812) dX12_init_810 rfl rfl rfl rfl (Or.inl ⟨rfl, rfl⟩) (fun _ => rfl) (zi 1 72 rfl rfl) (by decide) rfl (Nat.le_of_ble_eq_true rfl) (Nat.le_of_ble_eq_true rfl) (fun M161 hM161 => ?_)
  refine zr_putF (pc' := 815) (x := 143) dX12_init_812 rfl (by decide) (zNk_kd (k := 144) (a := 102) rfl (by decide)) fl_X12_142 kc_12 rfl rfl rfl rfl rfl trivial (fun M162 hM162 => ?_)
  refine zr_aload_n (pc' := 816) (i := 0) dX12_init_815 rfl rfl rfl ?_
  refine zr_bipush (pc' := 818) dX12_init_816 rfl rfl ?_
  refine zk_newa (k := 144) (k' := 145) (n := 8) (t0 := 0) (cu' := (42, 7676)) (pc' := 820) dX12_init_818 rfl rfl rfl rfl (Or.inl ⟨rfl, rfl⟩) (fun _ => rfl) (zi 1 72 rfl rfl) (by decide) rfl (Nat.le_of_ble_eq_true rfl) (Nat.le_of_ble_eq_true rfl) (fun M163 hM163 => ?_)
  refine zr_putF (pc' := 823) (x := 144) dX12_init_820 rfl (by decide) (zNk_kd (k := 145) (a := 102) rfl (by decide)) fl_X12_145 kc_12 rfl rfl rfl rfl rfl trivial (fun M164 hM164 => ?_)
  refine zr_aload_n (pc' := 824) (i := 0) dX12_init_823 rfl rfl rfl ?_
  refine zr_bipush (pc' := 826) dX12_init_824 rfl rfl ?_
  refine zk_newa (k := 145) (k' := 146) (n := 8) (t0 := 0) (cu' := (43, 7684)) (pc' := 828) dX12_init_826 rfl rfl rfl rfl (Or.inl ⟨rfl, rfl⟩) (fun _ => rfl) (zi 1 72 rfl rfl) (by decide) rfl (Nat.le_of_ble_eq_true rfl) (Nat.le_of_ble_eq_true rfl) (fun M165 hM165 => ?_)
  refine zr_putF (pc' := 831) (x := 145) dX12_init_828 rfl (by decide) (zNk_kd (k := 146) (a := 102) rfl (by decide)) fl_X12_148 kc_12 rfl rfl rfl rfl rfl trivial (fun M166 hM166 => ?_)
  refine zr_aload_n (pc' := 832) (i := 0) dX12_init_831 rfl rfl rfl ?_
  refine zr_bipush (pc' := 834) dX12_init_832 rfl rfl ?_
  refine zk_newa (k := 146) (k' := 147) (n := 8) (t0 := 0) (cu' := (44, 7692)) (pc' := 836) dX12_init_834 rfl rfl rfl rfl (Or.inl ⟨rfl, rfl⟩) (fun _ => rfl) (zi 1 72 rfl rfl) (by decide) rfl (Nat.le_of_ble_eq_true rfl) (Nat.le_of_ble_eq_true rfl) (fun M167 hM167 => ?_)
  refine zr_putF (pc' := 839) (x := 146) dX12_init_836 rfl (by decide) (zNk_kd (k := 147) (a := 102) rfl (by decide)) fl_X12_151 kc_12 rfl rfl rfl rfl rfl trivial (fun M168 hM168 => ?_)
  refine zr_aload_n (pc' := 840) (i := 0) dX12_init_839 rfl rfl rfl ?_
  refine zr_bipush (pc' := 842) dX12_init_840 rfl rfl ?_
  refine zk_newa (k := 147) (k' := 148) (n := 8) (t0 := 0) (cu' := (45, 7700)) (pc' := 844) dX12_init_842 rfl rfl rfl rfl (Or.inl ⟨rfl, rfl⟩) (fun _ => rfl) (zi 1 72 rfl rfl) (by decide) rfl (Nat.le_of_ble_eq_true rfl) (Nat.le_of_ble_eq_true rfl) (fun M169 hM169 => ?_)
  refine zr_putF (pc' := 847) (x := 147) dX12_init_844 rfl (by decide) (zNk_kd (k := 148) (a := 102) rfl (by decide)) fl_X12_154 kc_12 rfl rfl rfl rfl rfl trivial (fun M170 hM170 => ?_)
  refine zr_aload_n (pc' := 848) (i := 0) dX12_init_847 rfl rfl rfl ?_
  refine zr_bipush (pc' := 850) dX12_init_848 rfl rfl ?_
  refine zk_newa (k := 148) (k' := 149) (n := 14) (t0 := 0) (cu' := (46, 7714)) (pc' := 852) dX12_init_850 rfl rfl rfl rfl (Or.inl ⟨rfl, rfl⟩) (fun _ => rfl) (zi 1 72 rfl rfl) (by decide) rfl (Nat.le_of_ble_eq_true rfl) (Nat.le_of_ble_eq_true rfl) (fun M171 hM171 => ?_)
  refine zr_putF (pc' := 855) (x := 148) dX12_init_852 rfl (by decide) (zNk_kd (k := 149) (a := 102) rfl (by decide)) fl_X12_157 kc_12 rfl rfl rfl rfl rfl trivial (fun M172 hM172 => ?_)
  refine zr_aload_n (pc' := 856) (i := 0) dX12_init_855 rfl rfl rfl ?_
  refine zr_bipush (pc' := 858) dX12_init_856 rfl rfl ?_
  refine zk_newa (k := 149) (k' := 150) (n := 14) (t0 := 0) (cu' := (47, 7728)) (pc' := 860) dX12_init_858 rfl rfl rfl rfl (Or.inl ⟨rfl, rfl⟩) (fun _ => rfl) (zi 1 72 rfl rfl) (by decide) rfl (Nat.le_of_ble_eq_true rfl) (Nat.le_of_ble_eq_true rfl) (fun M173 hM173 => ?_)
  refine zr_putF (pc' := 863) (x := 149) dX12_init_860 rfl (by decide) (zNk_kd (k := 150) (a := 102) rfl (by decide)) fl_X12_160 kc_12 rfl rfl rfl rfl rfl trivial (fun M174 hM174 => ?_)
  refine zr_aload_n (pc' := 864) (i := 0) dX12_init_863 rfl rfl rfl ?_
  refine zr_bipush (pc' := 866) dX12_init_864 rfl rfl ?_
  refine zk_newa (k := 150) (k' := 151) (n := 14) (t0 := 0) (cu' := (48, 7742)) (pc' := 868) dX12_init_866 rfl rfl rfl rfl (Or.inl ⟨rfl, rfl⟩) (fun _ => rfl) (zi 1 72 rfl rfl) (by decide) rfl (Nat.le_of_ble_eq_true rfl) (Nat.le_of_ble_eq_true rfl) (fun M175 hM175 => ?_)
  refine zr_putF (pc' := 871) (x := 150) dX12_init_868 rfl (by decide) (zNk_kd (k := 151) (a := 102) rfl (by decide)) fl_X12_163 kc_12 rfl rfl rfl rfl rfl trivial (fun M176 hM176 => ?_)
  refine zr_aload_n (pc' := 872) (i := 0) dX12_init_871 rfl rfl rfl ?_
  refine zr_bipush (pc' := 874) dX12_init_872 rfl rfl ?_
  refine zk_newa (k := 151) (k' := 152) (n := 14) (t0 := 0) (cu' := (49, 7756)) (pc' := 876) dX12_init_874 rfl rfl rfl rfl (Or.inl ⟨rfl, rfl⟩) (fun _ => rfl) (zi 1 72 rfl rfl) (by decide) rfl (Nat.le_of_ble_eq_true rfl) (Nat.le_of_ble_eq_true rfl) (fun M177 hM177 => ?_)
  refine zr_putF (pc' := 879) (x := 151) dX12_init_876 rfl (by decide) (zNk_kd (k := 152) (a := 102) rfl (by decide)) fl_X12_166 kc_12 rfl rfl rfl rfl rfl trivial (fun M178 hM178 => ?_)
  refine zr_aload_n (pc' := 880) (i := 0) dX12_init_879 rfl rfl rfl ?_
  refine zr_bipush (pc' := 882) dX12_init_880 rfl rfl ?_
  refine zk_newa (k := 152) (k' := 153) (n := 14) (t0 := 0) (cu' := (50, 7770)) (pc' := 884) dX12_init_882 rfl rfl rfl rfl (Or.inl ⟨rfl, rfl⟩) (fun _ => rfl) (zi 1 72 rfl rfl) (by decide) rfl (Nat.le_of_ble_eq_true rfl) (Nat.le_of_ble_eq_true rfl) (fun M179 hM179 => ?_)
  refine zr_putF (pc' := 887) (x := 152) dX12_init_884 rfl (by decide) (zNk_kd (k := 153) (a := 102) rfl (by decide)) fl_X12_169 kc_12 rfl rfl rfl rfl rfl trivial (fun M180 hM180 => ?_)
  refine zr_aload_n (pc' := 888) (i := 0) dX12_init_887 rfl rfl rfl ?_
  refine zr_bipush (pc' := 890) dX12_init_888 rfl rfl ?_
  refine zk_newa (k := 153) (k' := 154) (n := 14) (t0 := 0) (cu' := (51, 7784)) (pc' := 892) dX12_init_890 rfl rfl rfl rfl (Or.inl ⟨rfl, rfl⟩) (fun _ => rfl) (zi 1 72 rfl rfl) (by decide) rfl (Nat.le_of_ble_eq_true rfl) (Nat.le_of_ble_eq_true rfl) (fun M181 hM181 => ?_)
  refine zr_putF (pc' := 895) (x := 153) dX12_init_892 rfl (by decide) (zNk_kd (k := 154) (a := 102) rfl (by decide)) fl_X12_172 kc_12 rfl rfl rfl rfl rfl trivial (fun M182 hM182 => ?_)
  refine zr_aload_n (pc' := 896) (i := 0) dX12_init_895 rfl rfl rfl ?_
  refine zr_bipush (pc' := 898) dX12_init_896 rfl rfl ?_
  refine zk_newa (k := 154) (k' := 155) (n := 100) (t0 := 0) (cu' := (52, 7884)) (pc' := 900) dX12_init_898 rfl rfl rfl rfl (Or.inl ⟨rfl, rfl⟩) (fun _ => rfl) (zi 1 72 rfl rfl) (by decide) rfl (Nat.le_of_ble_eq_true rfl) (Nat.le_of_ble_eq_true rfl) (fun M183 hM183 => ?_)
  refine zr_putF (pc' := 903) (x := 154) dX12_init_900 rfl (by decide) (zNk_kd (k := 155) (a := 102) rfl (by decide)) fl_X12_175 kc_12 rfl rfl rfl rfl rfl trivial (fun M184 hM184 => ?_)
  refine zr_aload_n (pc' := 904) (i := 0) dX12_init_903 rfl rfl rfl ?_
  refine zr_bipush (pc' := 906) dX12_init_904 rfl rfl ?_
  refine zk_newa (k := 155) (k' := 156) (n := 100) (t0 := 0) (cu' := (53, 7984)) (pc' := 908) dX12_init_906 rfl rfl rfl rfl (Or.inl ⟨rfl, rfl⟩) (fun _ => rfl) (zi 1 72 rfl rfl) (by decide) rfl (Nat.le_of_ble_eq_true rfl) (Nat.le_of_ble_eq_true rfl) (fun M185 hM185 => ?_)
  refine zr_putF (pc' := 911) (x := 155) dX12_init_908 rfl (by decide) (zNk_kd (k := 156) (a := 102) rfl (by decide)) fl_X12_178 kc_12 rfl rfl rfl rfl rfl trivial (fun M186 hM186 => ?_)
  refine zr_aload_n (pc' := 912) (i := 0) dX12_init_911 rfl rfl rfl ?_
  refine zr_sipush (pc' := 915) dX12_init_912 rfl rfl ?_
  refine zk_newa (k := 156) (k' := 157) (n := 1400) (t0 := 0) (cu' := (54, 9384)) (pc' := 917) dX12_init_915 rfl rfl rfl rfl (Or.inl ⟨rfl, rfl⟩) (fun _ => rfl) (zi 1 72 rfl rfl) (by decide) rfl (Nat.le_of_ble_eq_true rfl) (Nat.le_of_ble_eq_true rfl) (fun M187 hM187 => ?_)
  refine zr_putF (pc' := 920) (x := 156) dX12_init_917 rfl (by decide) (zNk_kd (k := 157) (a := 102) rfl (by decide)) fl_X12_181 kc_12 rfl rfl rfl rfl rfl trivial (fun M188 hM188 => ?_)
  refine zr_aload_n (pc' := 921) (i := 0) dX12_init_920 rfl rfl rfl ?_
  refine zr_sipush (pc' := 924) dX12_init_921 rfl rfl ?_
  refine zk_newa (k := 157) (k' := 158) (n := 1400) (t0 := 0) (cu' := (55, 10784)) (pc' := 926) dX12_init_924 rfl rfl rfl rfl (Or.inl ⟨rfl, rfl⟩) (fun _ => rfl) (zi 1 72 rfl rfl) (by decide) rfl (Nat.le_of_ble_eq_true rfl) (Nat.le_of_ble_eq_true rfl) (fun M189 hM189 => ?_)
  refine zr_putF (pc' := 929) (x := 157) dX12_init_926 rfl (by decide) (zNk_kd (k := 158) (a := 102) rfl (by decide)) fl_X12_184 kc_12 rfl rfl rfl rfl rfl trivial (fun M190 hM190 => ?_)
  refine zr_aload_n (pc' := 930) (i := 0) dX12_init_929 rfl rfl rfl ?_
  refine zr_sipush (pc' := 933) dX12_init_930 rfl rfl ?_
  refine zk_newa (k := 158) (k' := 159) (n := 1400) (t0 := 0) (cu' := (56, 12184)) (pc' := 935) dX12_init_933 rfl rfl rfl rfl (Or.inl ⟨rfl, rfl⟩) (fun _ => rfl) (zi 1 72 rfl rfl) (by decide) rfl (Nat.le_of_ble_eq_true rfl) (Nat.le_of_ble_eq_true rfl) (fun M191 hM191 => ?_)
  refine zr_putF (pc' := 938) (x := 158) dX12_init_935 rfl (by decide) (zNk_kd (k := 159) (a := 102) rfl (by decide)) fl_X12_187 kc_12 rfl rfl rfl rfl rfl trivial (fun M192 hM192 => ?_)
  refine zr_aload_n (pc' := 939) (i := 0) dX12_init_938 rfl rfl rfl ?_
  refine zr_sipush (pc' := 942) dX12_init_939 rfl rfl ?_
  refine zk_newa (k := 159) (k' := 160) (n := 1400) (t0 := 0) (cu' := (57, 13584)) (pc' := 944) dX12_init_942 rfl rfl rfl rfl (Or.inl ⟨rfl, rfl⟩) (fun _ => rfl) (zi 1 72 rfl rfl) (by decide) rfl (Nat.le_of_ble_eq_true rfl) (Nat.le_of_ble_eq_true rfl) (fun M193 hM193 => ?_)
  refine zr_putF (pc' := 947) (x := 159) dX12_init_944 rfl (by decide) (zNk_kd (k := 160) (a := 102) rfl (by decide)) fl_X12_190 kc_12 rfl rfl rfl rfl rfl trivial (fun M194 hM194 => ?_)
  refine zr_aload_n (pc' := 948) (i := 0) dX12_init_947 rfl rfl rfl ?_
  refine zr_sipush (pc' := 951) dX12_init_948 rfl rfl ?_
  refine zk_newa (k := 160) (k' := 161) (n := 402) (t0 := 0) (cu' := (58, 13986)) (pc' := 953) dX12_init_951 rfl rfl rfl rfl (Or.inl ⟨rfl, rfl⟩) (fun _ => rfl) (zi 1 72 rfl rfl) (by decide) rfl (Nat.le_of_ble_eq_true rfl) (Nat.le_of_ble_eq_true rfl) (fun M195 hM195 => ?_)
  refine zr_putF (pc' := 956) (x := 160) dX12_init_953 rfl (by decide) (zNk_kd (k := 161) (a := 102) rfl (by decide)) fl_X12_193 kc_12 rfl rfl rfl rfl rfl trivial (fun M196 hM196 => ?_)
  refine zr_aload_n (pc' := 957) (i := 0) dX12_init_956 rfl rfl rfl ?_
  refine zr_sipush (pc' := 960) dX12_init_957 rfl rfl ?_
  refine zk_newa (k := 161) (k' := 162) (n := 402) (t0 := 0) (cu' := (59, 14388)) (pc' := 962) dX12_init_960 rfl rfl rfl rfl (Or.inl ⟨rfl, rfl⟩) (fun _ => rfl) (zi 1 72 rfl rfl) (by decide) rfl (Nat.le_of_ble_eq_true rfl) (Nat.le_of_ble_eq_true rfl) (fun M197 hM197 => ?_)
  refine zr_putF (pc' := 965) (x := 161) dX12_init_962 rfl (by decide) (zNk_kd (k := 162) (a := 102) rfl (by decide)) fl_X12_196 kc_12 rfl rfl rfl rfl rfl trivial (fun M198 hM198 => ?_)
  refine zr_aload_n (pc' := 966) (i := 0) dX12_init_965 rfl rfl rfl ?_
  refine zr_bipush (pc' := 968) dX12_init_966 rfl rfl ?_
  refine zk_newa (k := 162) (k' := 163) (n := 6) (t0 := 0) (cu' := (60, 14394)) (pc' := 970) dX12_init_968 rfl rfl rfl rfl (Or.inl ⟨rfl, rfl⟩) (fun _ => rfl) (zi 1 72 rfl rfl) (by decide) rfl (Nat.le_of_ble_eq_true rfl) (Nat.le_of_ble_eq_true rfl) (fun M199 hM199 => ?_)
  refine zr_putF (pc' := 973) (x := 162) dX12_init_970 rfl (by decide) (zNk_kd (k := 163) (a := 102) rfl (by decide)) fl_X12_199 kc_12 rfl rfl rfl rfl rfl trivial (fun M200 hM200 => ?_)
  refine zr_aload_n (pc' := 974) (i := 0) dX12_init_973 rfl rfl rfl ?_
  refine zr_bipush (pc' := 976) dX12_init_974 rfl rfl ?_
  refine zk_newa (k := 163) (k' := 164) (n := 124) (t0 := 0) (cu' := (61, 14518)) (pc' := 978) dX12_init_976 rfl rfl rfl rfl (Or.inl ⟨rfl, rfl⟩) (fun _ => rfl) (zi 1 72 rfl rfl) (by decide) rfl (Nat.le_of_ble_eq_true rfl) (Nat.le_of_ble_eq_true rfl) (fun M201 hM201 => ?_)
  refine zr_putF (pc' := 981) (x := 163) dX12_init_978 rfl (by decide) (zNk_kd (k := 164) (a := 102) rfl (by decide)) fl_X12_202 kc_12 rfl rfl rfl rfl rfl trivial (fun M202 hM202 => ?_)
  refine zr_aload_n (pc' := 982) (i := 0) dX12_init_981 rfl rfl rfl ?_
  refine zr_bipush (pc' := 984) dX12_init_982 rfl rfl ?_
  refine zk_newa (k := 164) (k' := 165) (n := 124) (t0 := 0) (cu' := (62, 14642)) (pc' := 986) dX12_init_984 rfl rfl rfl rfl (Or.inl ⟨rfl, rfl⟩) (fun _ => rfl) (zi 1 72 rfl rfl) (by decide) rfl (Nat.le_of_ble_eq_true rfl) (Nat.le_of_ble_eq_true rfl) (fun M203 hM203 => ?_)
  refine zr_putF (pc' := 989) (x := 164) dX12_init_986 rfl (by decide) (zNk_kd (k := 165) (a := 102) rfl (by decide)) fl_X12_205 kc_12 rfl rfl rfl rfl rfl trivial (fun M204 hM204 => ?_)
  refine zr_return (x := 0) dX12_init_989 rfl (Nat.le_of_ble_eq_true rfl) (Nat.le_of_ble_eq_true rfl) ⟨rfl, ?_⟩
  subst hM1
  subst hM2
  subst hM3
  subst hM4
  subst hM5
  subst hM6
  subst hM7
  subst hM8
  subst hM9
  subst hM10
  subst hM11
  subst hM12
  subst hM13
  subst hM14
  subst hM15
  subst hM16
  subst hM17
  subst hM18
  subst hM19
  subst hM20
  subst hM21
  subst hM22
  subst hM23
  subst hM24
  subst hM25
  subst hM26
  subst hM27
  subst hM28
  subst hM29
  subst hM30
  subst hM31
  subst hM32
  subst hM33
  subst hM34
  subst hM35
  subst hM36
  subst hM37
  subst hM38
  subst hM39
  subst hM40
  subst hM41
  subst hM42
  subst hM43
  subst hM44
  subst hM45
  subst hM46
  subst hM47
  subst hM48
  subst hM49
  subst hM50
  subst hM51
  subst hM52
  subst hM53
  subst hM54
  subst hM55
  subst hM56
  subst hM57
  subst hM58
  subst hM59
  subst hM60
  subst hM61
  subst hM62
  subst hM63
  subst hM64
  subst hM65
  subst hM66
  subst hM67
  subst hM68
  subst hM69
  subst hM70
  subst hM71
  subst hM72
  subst hM73
  subst hM74
  subst hM75
  subst hM76
  subst hM77
  subst hM78
  subst hM79
  subst hM80
  subst hM81
  subst hM82
  subst hM83
  subst hM84
  subst hM85
  subst hM86
  subst hM87
  subst hM88
  subst hM89
  subst hM90
  subst hM91
  subst hM92
  subst hM93
  subst hM94
  subst hM95
  subst hM96
  subst hM97
  subst hM98
  subst hM99
  subst hM100
  subst hM101
  subst hM102
  subst hM103
  subst hM104
  subst hM105
  subst hM106
  subst hM107
  subst hM108
  subst hM109
  subst hM110
  subst hM111
  subst hM112
  subst hM113
  subst hM114
  subst hM115
  subst hM116
  subst hM117
  subst hM118
  subst hM119
  subst hM120
  subst hM121
  subst hM122
  subst hM123
  subst hM124
  subst hM125
  subst hM126
  subst hM127
  subst hM128
  subst hM129
  subst hM130
  subst hM131
  subst hM132
  subst hM133
  subst hM134
  subst hM135
  subst hM136
  subst hM137
  subst hM138
  subst hM139
  subst hM140
  subst hM141
  subst hM142
  subst hM143
  subst hM144
  subst hM145
  subst hM146
  subst hM147
  subst hM148
  subst hM149
  subst hM150
  subst hM151
  subst hM152
  subst hM153
  subst hM154
  subst hM155
  subst hM156
  subst hM157
  subst hM158
  subst hM159
  subst hM160
  subst hM161
  subst hM162
  subst hM163
  subst hM164
  subst hM165
  subst hM166
  subst hM167
  subst hM168
  subst hM169
  subst hM170
  subst hM171
  subst hM172
  subst hM173
  subst hM174
  subst hM175
  subst hM176
  subst hM177
  subst hM178
  subst hM179
  subst hM180
  subst hM181
  subst hM182
  subst hM183
  subst hM184
  subst hM185
  subst hM186
  subst hM187
  subst hM188
  subst hM189
  subst hM190
  subst hM191
  subst hM192
  subst hM193
  subst hM194
  subst hM195
  subst hM196
  subst hM197
  subst hM198
  subst hM199
  subst hM200
  subst hM201
  subst hM202
  subst hM203
  subst hM204
  rfl
