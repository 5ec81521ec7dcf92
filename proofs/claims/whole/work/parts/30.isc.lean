/-! objects of a class, where there are several -/
def zIs_0 (a : Int) : Prop := a = 35 ∨ a = 70 ∨ a = 80 ∨ a = 90
theorem is_0_pos {a : Int} (h : zIs_0 a) : 0 ≤ a := by
  rcases h with rfl | rfl | rfl | rfl <;> decide
theorem is_0_kd {a : Int} (h : zIs_0 a) : zNN.1[a.toNat]? = some (0, 0) := by
  rcases h with rfl | rfl | rfl | rfl <;> rfl
theorem is_0_gv_0 {a : Int} (h : zIs_0 a) (M : zM) : zfV (zty 0 0) (zg zNN M a.toNat 0) = .inr (.inr (a + 1)) := by
  rcases h with rfl | rfl | rfl | rfl <;> rfl
theorem is_0_ka_0 {a : Int} (h : zIs_0 a) : zNN.1[(a + 1).toNat]? = some (100, 832) := by
  rcases h with rfl | rfl | rfl | rfl <;> rfl
theorem is_0_kp_0 {a : Int} (h : zIs_0 a) : 0 ≤ a + 1 := by
  rcases h with rfl | rfl | rfl | rfl <;> decide
theorem is_0_gv_1 {a : Int} (h : zIs_0 a) (M : zM) : zfV (zty 0 1) (zg zNN M a.toNat 1) = .inr (.inr (a + 2)) := by
  rcases h with rfl | rfl | rfl | rfl <;> rfl
theorem is_0_ka_1 {a : Int} (h : zIs_0 a) : zNN.1[(a + 2).toNat]? = some (100, 832) := by
  rcases h with rfl | rfl | rfl | rfl <;> rfl
theorem is_0_kp_1 {a : Int} (h : zIs_0 a) : 0 ≤ a + 2 := by
  rcases h with rfl | rfl | rfl | rfl <;> decide
theorem is_0_gv_2 {a : Int} (h : zIs_0 a) (M : zM) : zfV (zty 0 2) (zg zNN M a.toNat 2) = .inr (.inr (a + 3)) := by
  rcases h with rfl | rfl | rfl | rfl <;> rfl
theorem is_0_ka_2 {a : Int} (h : zIs_0 a) : zNN.1[(a + 3).toNat]? = some (100, 64) := by
  rcases h with rfl | rfl | rfl | rfl <;> rfl
theorem is_0_kp_2 {a : Int} (h : zIs_0 a) : 0 ≤ a + 3 := by
  rcases h with rfl | rfl | rfl | rfl <;> decide
theorem is_0_gv_3 {a : Int} (h : zIs_0 a) (M : zM) : zfV (zty 0 3) (zg zNN M a.toNat 3) = .inl (M a.toNat 3) := by
  rcases h with rfl | rfl | rfl | rfl <;> rfl
theorem is_0_nf_3 {a : Int} (h : zIs_0 a) : zNN.2.1 a.toNat 3 = none := by
  rcases h with rfl | rfl | rfl | rfl <;> rfl
theorem is_0_gv_4 {a : Int} (h : zIs_0 a) (M : zM) : zfV (zty 0 4) (zg zNN M a.toNat 4) = .inl (M a.toNat 4) := by
  rcases h with rfl | rfl | rfl | rfl <;> rfl
theorem is_0_nf_4 {a : Int} (h : zIs_0 a) : zNN.2.1 a.toNat 4 = none := by
  rcases h with rfl | rfl | rfl | rfl <;> rfl
theorem is_0_gv_5 {a : Int} (h : zIs_0 a) (M : zM) : zfV (zty 0 5) (zg zNN M a.toNat 5) = .inr (.inr (a + 4)) := by
  rcases h with rfl | rfl | rfl | rfl <;> rfl
theorem is_0_ka_5 {a : Int} (h : zIs_0 a) : zNN.1[(a + 4).toNat]? = some (100, 64) := by
  rcases h with rfl | rfl | rfl | rfl <;> rfl
theorem is_0_kp_5 {a : Int} (h : zIs_0 a) : 0 ≤ a + 4 := by
  rcases h with rfl | rfl | rfl | rfl <;> decide
theorem is_0_gv_6 {a : Int} (h : zIs_0 a) (M : zM) : zfV (zty 0 6) (zg zNN M a.toNat 6) = .inr (.inr (a + 5)) := by
  rcases h with rfl | rfl | rfl | rfl <;> rfl
theorem is_0_ka_6 {a : Int} (h : zIs_0 a) : zNN.1[(a + 5).toNat]? = some (100, 64) := by
  rcases h with rfl | rfl | rfl | rfl <;> rfl
theorem is_0_kp_6 {a : Int} (h : zIs_0 a) : 0 ≤ a + 5 := by
  rcases h with rfl | rfl | rfl | rfl <;> decide
theorem is_0_gv_7 {a : Int} (h : zIs_0 a) (M : zM) : zfV (zty 0 7) (zg zNN M a.toNat 7) = .inr (.inr (a + 6)) := by
  rcases h with rfl | rfl | rfl | rfl <;> rfl
theorem is_0_ka_7 {a : Int} (h : zIs_0 a) : zNN.1[(a + 6).toNat]? = some (100, 64) := by
  rcases h with rfl | rfl | rfl | rfl <;> rfl
theorem is_0_kp_7 {a : Int} (h : zIs_0 a) : 0 ≤ a + 6 := by
  rcases h with rfl | rfl | rfl | rfl <;> decide
theorem is_0_gv_8 {a : Int} (h : zIs_0 a) (M : zM) : zfV (zty 0 8) (zg zNN M a.toNat 8) = .inl (M a.toNat 8) := by
  rcases h with rfl | rfl | rfl | rfl <;> rfl
theorem is_0_nf_8 {a : Int} (h : zIs_0 a) : zNN.2.1 a.toNat 8 = none := by
  rcases h with rfl | rfl | rfl | rfl <;> rfl
theorem is_0_gv_9 {a : Int} (h : zIs_0 a) (M : zM) : zfV (zty 0 9) (zg zNN M a.toNat 9) = .inr (.inr (a + 7)) := by
  rcases h with rfl | rfl | rfl | rfl <;> rfl
theorem is_0_ka_9 {a : Int} (h : zIs_0 a) : zNN.1[(a + 7).toNat]? = some (100, 202) := by
  rcases h with rfl | rfl | rfl | rfl <;> rfl
theorem is_0_kp_9 {a : Int} (h : zIs_0 a) : 0 ≤ a + 7 := by
  rcases h with rfl | rfl | rfl | rfl <;> decide
theorem is_0_gv_10 {a : Int} (h : zIs_0 a) (M : zM) : zfV (zty 0 10) (zg zNN M a.toNat 10) = .inl (M a.toNat 10) := by
  rcases h with rfl | rfl | rfl | rfl <;> rfl
theorem is_0_nf_10 {a : Int} (h : zIs_0 a) : zNN.2.1 a.toNat 10 = none := by
  rcases h with rfl | rfl | rfl | rfl <;> rfl
theorem is_0_gv_11 {a : Int} (h : zIs_0 a) (M : zM) : zfV (zty 0 11) (zg zNN M a.toNat 11) = .inr (.inr (a + 8)) := by
  rcases h with rfl | rfl | rfl | rfl <;> rfl
theorem is_0_ka_11 {a : Int} (h : zIs_0 a) : zNN.1[(a + 8).toNat]? = some (100, 8) := by
  rcases h with rfl | rfl | rfl | rfl <;> rfl
theorem is_0_kp_11 {a : Int} (h : zIs_0 a) : 0 ≤ a + 8 := by
  rcases h with rfl | rfl | rfl | rfl <;> decide
def zIs_4 (a : Int) : Prop := a = 99 ∨ a = 100 ∨ a = 101
theorem is_4_pos {a : Int} (h : zIs_4 a) : 0 ≤ a := by
  rcases h with rfl | rfl | rfl <;> decide
theorem is_4_kd {a : Int} (h : zIs_4 a) : zNN.1[a.toNat]? = some (4, 0) := by
  rcases h with rfl | rfl | rfl <;> rfl
theorem is_4_gv_0 {a : Int} (h : zIs_4 a) (M : zM) : zfV (zty 4 0) (zg zNN M a.toNat 0) = .inl (M a.toNat 0) := by
  rcases h with rfl | rfl | rfl <;> rfl
theorem is_4_nf_0 {a : Int} (h : zIs_4 a) : zNN.2.1 a.toNat 0 = none := by
  rcases h with rfl | rfl | rfl <;> rfl
theorem is_4_gv_1 {a : Int} (h : zIs_4 a) (M : zM) : zfV (zty 4 1) (zg zNN M a.toNat 1) = .inl (M a.toNat 1) := by
  rcases h with rfl | rfl | rfl <;> rfl
theorem is_4_nf_1 {a : Int} (h : zIs_4 a) : zNN.2.1 a.toNat 1 = none := by
  rcases h with rfl | rfl | rfl <;> rfl
theorem is_4_gv_2 {a : Int} (h : zIs_4 a) (M : zM) : zfV (zty 4 2) (zg zNN M a.toNat 2) = .inl (M a.toNat 2) := by
  rcases h with rfl | rfl | rfl <;> rfl
theorem is_4_nf_2 {a : Int} (h : zIs_4 a) : zNN.2.1 a.toNat 2 = none := by
  rcases h with rfl | rfl | rfl <;> rfl
theorem is_4_gv_3 {a : Int} (h : zIs_4 a) (M : zM) : zfV (zty 4 3) (zg zNN M a.toNat 3) = .inl (M a.toNat 3) := by
  rcases h with rfl | rfl | rfl <;> rfl
theorem is_4_nf_3 {a : Int} (h : zIs_4 a) : zNN.2.1 a.toNat 3 = none := by
  rcases h with rfl | rfl | rfl <;> rfl
theorem is_4_gv_4 {a : Int} (h : zIs_4 a) (M : zM) : zfV (zty 4 4) (zg zNN M a.toNat 4) = .inl (M a.toNat 4) := by
  rcases h with rfl | rfl | rfl <;> rfl
theorem is_4_nf_4 {a : Int} (h : zIs_4 a) : zNN.2.1 a.toNat 4 = none := by
  rcases h with rfl | rfl | rfl <;> rfl
def zIs_6 (a : Int) : Prop := a = 6 ∨ a = 13
theorem is_6_pos {a : Int} (h : zIs_6 a) : 0 ≤ a := by
  rcases h with rfl | rfl <;> decide
theorem is_6_kd {a : Int} (h : zIs_6 a) : zNN.1[a.toNat]? = some (6, 0) := by
  rcases h with rfl | rfl <;> rfl
theorem is_6_gv_0 {a : Int} (h : zIs_6 a) (M : zM) : zfV (zty 6 0) (zg zNN M a.toNat 0) = .inr (.inr (a + 1)) := by
  rcases h with rfl | rfl <;> rfl
theorem is_6_ka_0 {a : Int} (h : zIs_6 a) : zNN.1[(a + 1).toNat]? = some (100, 64) := by
  rcases h with rfl | rfl <;> rfl
theorem is_6_kp_0 {a : Int} (h : zIs_6 a) : 0 ≤ a + 1 := by
  rcases h with rfl | rfl <;> decide
theorem is_6_gv_1 {a : Int} (h : zIs_6 a) (M : zM) : zfV (zty 6 1) (zg zNN M a.toNat 1) = .inr (.inr (a + 2)) := by
  rcases h with rfl | rfl <;> rfl
theorem is_6_ka_1 {a : Int} (h : zIs_6 a) : zNN.1[(a + 2).toNat]? = some (100, 64) := by
  rcases h with rfl | rfl <;> rfl
theorem is_6_kp_1 {a : Int} (h : zIs_6 a) : 0 ≤ a + 2 := by
  rcases h with rfl | rfl <;> decide
theorem is_6_gv_2 {a : Int} (h : zIs_6 a) (M : zM) : zfV (zty 6 2) (zg zNN M a.toNat 2) = .inr (.inr (a + 3)) := by
  rcases h with rfl | rfl <;> rfl
theorem is_6_ka_2 {a : Int} (h : zIs_6 a) : zNN.1[(a + 3).toNat]? = some (100, 64) := by
  rcases h with rfl | rfl <;> rfl
theorem is_6_kp_2 {a : Int} (h : zIs_6 a) : 0 ≤ a + 3 := by
  rcases h with rfl | rfl <;> decide
theorem is_6_gv_3 {a : Int} (h : zIs_6 a) (M : zM) : zfV (zty 6 3) (zg zNN M a.toNat 3) = .inr (.inr (a + 4)) := by
  rcases h with rfl | rfl <;> rfl
theorem is_6_ka_3 {a : Int} (h : zIs_6 a) : zNN.1[(a + 4).toNat]? = some (100, 12) := by
  rcases h with rfl | rfl <;> rfl
theorem is_6_kp_3 {a : Int} (h : zIs_6 a) : 0 ≤ a + 4 := by
  rcases h with rfl | rfl <;> decide
theorem is_6_gv_4 {a : Int} (h : zIs_6 a) (M : zM) : zfV (zty 6 4) (zg zNN M a.toNat 4) = .inr (.inr (a + 5)) := by
  rcases h with rfl | rfl <;> rfl
theorem is_6_ka_4 {a : Int} (h : zIs_6 a) : zNN.1[(a + 5).toNat]? = some (100, 12) := by
  rcases h with rfl | rfl <;> rfl
theorem is_6_kp_4 {a : Int} (h : zIs_6 a) : 0 ≤ a + 5 := by
  rcases h with rfl | rfl <;> decide
theorem is_6_gv_5 {a : Int} (h : zIs_6 a) (M : zM) : zfV (zty 6 5) (zg zNN M a.toNat 5) = .inr (.inr (a + 6)) := by
  rcases h with rfl | rfl <;> rfl
theorem is_6_ka_5 {a : Int} (h : zIs_6 a) : zNN.1[(a + 6).toNat]? = some (101, 64) := by
  rcases h with rfl | rfl <;> rfl
theorem is_6_kp_5 {a : Int} (h : zIs_6 a) : 0 ≤ a + 6 := by
  rcases h with rfl | rfl <;> decide
theorem is_6_gv_6 {a : Int} (h : zIs_6 a) (M : zM) : zfV (zty 6 6) (zg zNN M a.toNat 6) = .inl (M a.toNat 6) := by
  rcases h with rfl | rfl <;> rfl
theorem is_6_nf_6 {a : Int} (h : zIs_6 a) : zNN.2.1 a.toNat 6 = none := by
  rcases h with rfl | rfl <;> rfl
theorem is_6_gv_7 {a : Int} (h : zIs_6 a) (M : zM) : zfV (zty 6 7) (zg zNN M a.toNat 7) = .inl (M a.toNat 7) := by
  rcases h with rfl | rfl <;> rfl
theorem is_6_nf_7 {a : Int} (h : zIs_6 a) : zNN.2.1 a.toNat 7 = none := by
  rcases h with rfl | rfl <;> rfl
theorem is_6_gv_8 {a : Int} (h : zIs_6 a) (M : zM) : zfV (zty 6 8) (zg zNN M a.toNat 8) = .inl (M a.toNat 8) := by
  rcases h with rfl | rfl <;> rfl
theorem is_6_nf_8 {a : Int} (h : zIs_6 a) : zNN.2.1 a.toNat 8 = none := by
  rcases h with rfl | rfl <;> rfl
theorem is_6_gv_9 {a : Int} (h : zIs_6 a) (M : zM) : zfV (zty 6 9) (zg zNN M a.toNat 9) = .inl (M a.toNat 9) := by
  rcases h with rfl | rfl <;> rfl
theorem is_6_nf_9 {a : Int} (h : zIs_6 a) : zNN.2.1 a.toNat 9 = none := by
  rcases h with rfl | rfl <;> rfl
theorem is_6_gv_10 {a : Int} (h : zIs_6 a) (M : zM) : zfV (zty 6 10) (zg zNN M a.toNat 10) = .inl (M a.toNat 10) := by
  rcases h with rfl | rfl <;> rfl
theorem is_6_nf_10 {a : Int} (h : zIs_6 a) : zNN.2.1 a.toNat 10 = none := by
  rcases h with rfl | rfl <;> rfl
theorem is_6_gv_11 {a : Int} (h : zIs_6 a) (M : zM) : zfV (zty 6 11) (zg zNN M a.toNat 11) = .inl (M a.toNat 11) := by
  rcases h with rfl | rfl <;> rfl
theorem is_6_nf_11 {a : Int} (h : zIs_6 a) : zNN.2.1 a.toNat 11 = none := by
  rcases h with rfl | rfl <;> rfl
def zIs_10 (a : Int) : Prop := a = 69 ∨ a = 79 ∨ a = 89
theorem is_10_pos {a : Int} (h : zIs_10 a) : 0 ≤ a := by
  rcases h with rfl | rfl | rfl <;> decide
theorem is_10_kd {a : Int} (h : zIs_10 a) : zNN.1[a.toNat]? = some (10, 0) := by
  rcases h with rfl | rfl | rfl <;> rfl
theorem is_10_gv_0 {a : Int} (h : zIs_10 a) (M : zM) : zfV (zty 10 0) (zg zNN M a.toNat 0) = .inl (M a.toNat 0) := by
  rcases h with rfl | rfl | rfl <;> rfl
theorem is_10_nf_0 {a : Int} (h : zIs_10 a) : zNN.2.1 a.toNat 0 = none := by
  rcases h with rfl | rfl | rfl <;> rfl
theorem is_10_gv_1 {a : Int} (h : zIs_10 a) (M : zM) : zfV (zty 10 1) (zg zNN M a.toNat 1) = .inl (M a.toNat 1) := by
  rcases h with rfl | rfl | rfl <;> rfl
theorem is_10_nf_1 {a : Int} (h : zIs_10 a) : zNN.2.1 a.toNat 1 = none := by
  rcases h with rfl | rfl | rfl <;> rfl
theorem is_10_gv_2 {a : Int} (h : zIs_10 a) (M : zM) : zfV (zty 10 2) (zg zNN M a.toNat 2) = .inl (M a.toNat 2) := by
  rcases h with rfl | rfl | rfl <;> rfl
theorem is_10_nf_2 {a : Int} (h : zIs_10 a) : zNN.2.1 a.toNat 2 = none := by
  rcases h with rfl | rfl | rfl <;> rfl
theorem is_10_gv_3 {a : Int} (h : zIs_10 a) (M : zM) : zfV (zty 10 3) (zg zNN M a.toNat 3) = .inl (M a.toNat 3) := by
  rcases h with rfl | rfl | rfl <;> rfl
theorem is_10_nf_3 {a : Int} (h : zIs_10 a) : zNN.2.1 a.toNat 3 = none := by
  rcases h with rfl | rfl | rfl <;> rfl
theorem is_10_gv_4 {a : Int} (h : zIs_10 a) (M : zM) : zfV (zty 10 4) (zg zNN M a.toNat 4) = .inl (M a.toNat 4) := by
  rcases h with rfl | rfl | rfl <;> rfl
theorem is_10_nf_4 {a : Int} (h : zIs_10 a) : zNN.2.1 a.toNat 4 = none := by
  rcases h with rfl | rfl | rfl <;> rfl
theorem ou_2 : ("VolcanoWatch", "STEP_X", 2, [1, 1, 0, -1, -1, -1, 0, 1]) ∈ zOuts := by decide
theorem ou_3 : ("VolcanoWatch", "STEP_Y", 3, [0, 1, 1, 1, 0, -1, -1, -1]) ∈ zOuts := by decide
abbrev mJ7_fill_53178 : zD := (yJ7_fill_53178, cJ7_fill_53178, 4, none, RJ7, { frames := 0, cells := 0, slots := 0, locals := 0 }, 0, 0)
theorem dJ7_fill_53178_0 : decode cJ7_fill_53178 0 = .ok (.iconst 0, 1) := by decide +kernel
theorem dJ7_fill_53178_1 : decode cJ7_fill_53178 1 = .ok (.istore_n 2, 1) := by decide +kernel
theorem dJ7_fill_53178_2 : decode cJ7_fill_53178 2 = .ok (.aload_n 0, 1) := by decide +kernel
theorem dJ7_fill_53178_3 : decode cJ7_fill_53178 3 = .ok (.arraylength, 1) := by decide +kernel
theorem dJ7_fill_53178_4 : decode cJ7_fill_53178 4 = .ok (.istore_n 3, 1) := by decide +kernel
theorem dJ7_fill_53178_5 : decode cJ7_fill_53178 5 = .ok (.iload_n 2, 1) := by decide +kernel
theorem dJ7_fill_53178_6 : decode cJ7_fill_53178 6 = .ok (.iload_n 3, 1) := by decide +kernel
theorem dJ7_fill_53178_7 : decode cJ7_fill_53178 7 = .ok (.if_icmp .ge 13, 3) := by decide +kernel
theorem dJ7_fill_53178_10 : decode cJ7_fill_53178 10 = .ok (.aload_n 0, 1) := by decide +kernel
theorem dJ7_fill_53178_11 : decode cJ7_fill_53178 11 = .ok (.iload_n 2, 1) := by decide +kernel
theorem dJ7_fill_53178_12 : decode cJ7_fill_53178 12 = .ok (.iload_n 1, 1) := by decide +kernel
theorem dJ7_fill_53178_13 : decode cJ7_fill_53178 13 = .ok (.iastore, 1) := by decide +kernel
theorem dJ7_fill_53178_14 : decode cJ7_fill_53178 14 = .ok (.iinc 2 1, 3) := by decide +kernel
theorem dJ7_fill_53178_17 : decode cJ7_fill_53178 17 = .ok (.goto (-12), 3) := by decide +kernel
theorem dJ7_fill_53178_20 : decode cJ7_fill_53178 20 = .ok (.return_, 1) := by decide +kernel

def zcopy (M : zM) (a sp b dp n : Nat) : zM := fun x => if x = b then (fun y => if dp ≤ y ∧ y < dp + n then M a (sp + (y - dp)) else M b y) else M x
theorem zw_row (E : zE) (N : zN) (M M' : zM) {b : Nat} {kd : Nat × Nat} {e : va_E} (hk : N.1[b]? = some kd) (hM : ∀ x, x ≠ b → M' x = M x) (he : zent E N M' b kd = e) : (zw E N M).set b (E.2.2.2.1 + b, e) = zw E N M' := by
  apply List.ext_getElem?
  intro k
  rw [List.getElem?_set]
  by_cases hka : b = k
  · subst hka
    have hl : b < (zw E N M).length := by
      unfold zw
      rw [List.length_map, List.length_range]
      exact (List.getElem?_eq_some_iff.mp hk).1
    rw [if_pos rfl, if_pos hl, zw_get E N _ hk, he]
  · rw [if_neg hka]
    unfold zw
    rw [List.getElem?_map, List.getElem?_map]
    cases hr : (List.range N.1.length)[k]? with
    | none => rfl
    | some j =>
      have hj : j = k := by
        obtain ⟨h1, h2⟩ := List.getElem?_eq_some_iff.mp hr
        simp at h2
        exact h2.symm
      subst hj
      show some (E.2.2.2.1 + j, zent E N M j (N.1.getD j (0, 0))) = some (E.2.2.2.1 + j, zent E N M' j (N.1.getD j (0, 0)))
      have h9 : zent E N M' j (N.1.getD j (0, 0)) = zent E N M j (N.1.getD j (0, 0)) := by
        unfold zent zg
        rw [hM j (fun h => hka h.symm)]
      rw [h9]
section zr
variable {E : zE} {N : zN} {cu : Nat × Nat} {d : zD} {pc pc' : Nat} {al al' : List (Nat × zV)} {st : List zV} {M : zM} {Q : Int → zN → zM → Prop}
theorem zr_copy {a b sp dp n : Int} {na nb idx : Nat} (hd : decode d.2.1 pc = .ok (.invokestatic idx, 3)) (hp : pc + 3 = pc') (ha : 0 ≤ a) (hka : N.1[a.toNat]? = some (100, na)) (hb : 0 ≤ b) (hkb : N.1[b.toNat]? = some (100, nb)) (hna : na < 2147483648) (hnb : nb < 2147483648)
    (hw : Cond.methodLink d.2.2.2.2.1 idx arraycopyName ∈ zT ∧ Cond.native arraycopyName ∈ zT ∧ Cond.static arraycopyName ∈ zT ∧ Cond.initialized "java/lang/System" ∈ zT) (hf : 1 ≤ d.2.2.2.2.2.1.frames) (hlo : (st.map zcat).sum + (nativeFrameWords "java/lang/System" "arraycopy" 5 + 11) ≤ d.2.2.2.2.2.1.locals)
    (h1 : 0 ≤ sp) (h2 : 0 ≤ dp) (h3 : 0 ≤ n) (h4 : sp + n ≤ na) (h5 : dp + n ≤ nb) (k : ∀ M1, M1 = zcopy M a.toNat sp.toNat b.toNat dp.toNat n.toNat → zA E N cu d pc' al st M1 Q) : zA E N cu d pc al (.inl n :: .inl dp :: .inr (.inr b) :: .inl sp :: .inr (.inr a) :: st) M Q := by
  subst hp
  intro p e s m args below meth c H locs ls hC hH hS hl
  have hts := hC.1.2.2.2.2.1
  have hwa := zw_get E N M hka
  have hwb := zw_get E N M hkb
  rw [zent_int] at hwa hwb
  rw [List.map_cons, List.map_cons, List.map_cons, List.map_cons, List.map_cons, zv_ref E ha, zv_ref E hb]
  have z1 := zcl h1 (by omega)
  have z2 := zcl h2 (by omega)
  have z3 := zcl h3 (by omega)
  refine va_copyi (ws := zw E N M) (A := zAs E) (ty := .int) hC.1.1 hC.1.2.1 (by rw [hC.1.2.2.1]; exact hl.1.symm) hC.1.2.2.2.1 (hts _ hw.1) (hts _ hw.2.1) (hts _ hw.2.2.1) (hts _ hw.2.2.2) hC.1.2.2.2.2.2.2.2.1 hH (zw_D E N M) hS a.toNat b.toNat 0 0 hwa hwb rfl rfl rfl (by rw [zlt0 ⟨by omega, by omega⟩]; omega) (by rw [zlt0 ⟨by omega, by omega⟩]; omega) (by rw [zlt0 ⟨by omega, by omega⟩]; omega) (by rw [z1, z3]; omega) (by rw [z2, z3]; omega) (fun _ _ => rfl) hf (by rw [zcat_sum]; exact hlo) hd (fun H1 locs1 hP1 hD1 hS1 => ?_)
  rw [z1, z2, z3, zw_row E N M (zcopy M a.toNat sp.toNat b.toNat dp.toNat n.toNat) (kd := (100, nb)) hkb (fun x hx => by unfold zcopy; rw [if_neg hx]) (by
    rw [zent_int]
    congr 3
    congr 1
    funext y
    unfold zcopy va_cpy
    rw [if_pos rfl]
    by_cases hy : dp.toNat ≤ y ∧ y < dp.toNat + n.toNat
    · simp only [if_pos hy]
    · simp only [if_neg hy])] at hP1
  exact k _ rfl p e s m args below meth c H1 locs1 ls hC hP1 hS1 hl
end zr
def zfill (M : zM) (a n : Nat) (v : Int) : zM := fun x => if x = a then (fun y => if y < n then v else M a y) else M x
theorem zfill_0 (M : zM) (a : Nat) (v : Int) : zfill M a 0 v = M := by
  funext x y
  unfold zfill
  by_cases h : x = a
  · subst h; simp
  · rw [if_neg h]
theorem zfill_s (M : zM) (a n : Nat) (v : Int) : zup (zfill M a n v) a n v = zfill M a (n + 1) v := by
  funext x y
  unfold zfill zup
  by_cases h : x = a
  · subst h
    have h3 : y < n + 1 ↔ y < n ∨ y = n := by omega
    by_cases h2 : y = n
    · subst h2; simp
    · simp [h3, h2]
  · simp only [if_neg h]
theorem fill_loop {E : zE} {N : zN} {a v : Int} {n : Nat} (ha : 0 ≤ a) (hk : N.1[a.toNat]? = some (100, n)) (hn : n < 2147483648) (M : zM) : ∀ (j i : Nat), i + j = n → zA E N (0, 0) mJ7_fill_53178 5 [(3, .inl (n : Int)), (2, .inl (i : Int)), (0, .inr (.inr a)), (1, .inl v)] [] (zfill M a.toNat i v) (fun _ N' M' => N' = N ∧ M' = zfill M a.toNat n v)
  | 0, i, hi => by
    have hi : i = n := by omega
    subst hi
    refine zr_iload_n (pc' := 6) (i := 2) dJ7_fill_53178_5 rfl rfl rfl ?_
    refine zr_iload_n (pc' := 7) (i := 3) dJ7_fill_53178_6 rfl rfl rfl ?_
    refine zr_icmp_ge (tgt := 20) (pc' := 10) dJ7_fill_53178_7 rfl rfl ⟨by omega, by omega⟩ ⟨by omega, by omega⟩ (fun _ => ?_) (fun hc => absurd hc (by omega))
    exact zr_return (x := 0) dJ7_fill_53178_20 rfl (Nat.le_refl _) (Nat.le_refl _) ⟨rfl, rfl⟩
  | j + 1, i, hi => by
    refine zr_iload_n (pc' := 6) (i := 2) dJ7_fill_53178_5 rfl rfl rfl ?_
    refine zr_iload_n (pc' := 7) (i := 3) dJ7_fill_53178_6 rfl rfl rfl ?_
    refine zr_icmp_ge (tgt := 20) (pc' := 10) dJ7_fill_53178_7 rfl rfl ⟨by omega, by omega⟩ ⟨by omega, by omega⟩ (fun hc => absurd hc (by omega)) (fun _ => ?_)
    refine zr_aload_n (pc' := 11) (i := 0) dJ7_fill_53178_10 rfl rfl rfl ?_
    refine zr_iload_n (pc' := 12) (i := 2) dJ7_fill_53178_11 rfl rfl rfl ?_
    refine zr_iload_n (pc' := 13) (i := 1) dJ7_fill_53178_12 rfl rfl rfl ?_
    refine zr_iast (pc' := 14) dJ7_fill_53178_13 rfl ha hk hn (by omega) (by omega) (fun M1 hM1 => ?_)
    refine zr_iinc (pc' := 17) (al' := [(2, .inl ((i : Int) + 1)), (3, .inl (n : Int)), (0, .inr (.inr a)), (1, .inl v)]) dJ7_fill_53178_14 rfl rfl (by decide) rfl ?_
    refine zr_goto (pc' := 5) dJ7_fill_53178_17 rfl ?_
    have he : M1 = zfill M a.toNat (i + 1) v := by
      rw [hM1, ← zfill_s]
      rfl
    subst he
    refine zr_al (zsub_of ?_) (fill_loop ha hk hn M j (i + 1) (by omega))
    exact ⟨rfl, rfl, rfl, rfl, trivial⟩
theorem c_fill {E : zE} {N : zN} {a v : Int} {n : Nat} {M : zM} (ha : 0 ≤ a) (hk : N.1[a.toNat]? = some (100, n)) (hn : n < 2147483648) : zC E N mJ7_fill_53178 [.inr (.inr a), .inl v] M (fun _ N' M' => N' = N ∧ M' = zfill M a.toNat n v) := by
  refine zC_of (by decide +kernel) rfl (by rw [lg_zl]; exact Nat.le_of_ble_eq_true rfl) ?_
  show zA E N (0, 0) mJ7_fill_53178 0 [(0, .inr (.inr a)), (1, .inl v)] [] M _
  refine zr_iconst (pc' := 1) dJ7_fill_53178_0 rfl ?_
  refine zr_istore_n (pc' := 2) (i := 2) (al' := [(2, .inl 0), (0, .inr (.inr a)), (1, .inl v)]) dJ7_fill_53178_1 rfl rfl (by decide) rfl ?_
  refine zr_aload_n (pc' := 3) (i := 0) dJ7_fill_53178_2 rfl rfl rfl ?_
  refine zr_alen (pc' := 4) (t0 := 0) dJ7_fill_53178_3 rfl ha hk (by decide) (fun _ => rfl) ?_
  refine zr_istore_n (pc' := 5) (i := 3) (al' := [(3, .inl (n : Int)), (2, .inl 0), (0, .inr (.inr a)), (1, .inl v)]) dJ7_fill_53178_4 rfl rfl (by decide) rfl ?_
  have h := fill_loop (E := E) (v := v) ha hk hn M n 0 (by omega)
  rw [zfill_0] at h
  exact h
theorem s_fill {E : zE} {a v : Int} {n : Nat} {M : zM} (ha : 0 ≤ a) (hk : zNN.1[a.toNat]? = some (100, n)) (hn : n < 2147483648) : zP E mJ7_fill_53178 [.inr (.inr a), .inl v] M (fun _ M' => M' = zfill M a.toNat n v) := c_fill ha hk hn
section zn
variable {E : zE} {d : zD} {pc pc' : Nat} {al al' : List (Nat × zV)} {st : List zV} {M : zM} {Q : Int → zM → Prop}
theorem zn_callSN {d2 : zD} {host : String} {idx n : Nat} {args st0 : List zV} {Q' : Int → zM → Prop} {st' : Int → List zV} (hd : decode d.2.1 pc = .ok (.invokestatic idx, 3)) (hp : pc + 3 = pc') (hw : zCsn d.2.2.2.2.1 host idx d2 n) (hR : zRm d d2) (hm : d2.2.2.2.2.2.2 = (0, 0)) (hn : args.length = n) (hst : args.reverse ++ st = st0) (h8 : (st.map zcat).sum ≤ 8) (hr : ∀ r, zpu d2.2.2.2.1 r st = st' r)
    (hM : zP E d2 args M Q') (k : ∀ r M', Q' r M' → zA E zNN (0, 0) d pc' al (st' r) M' (zQ Q)) : zA E zNN (0, 0) d pc al st0 M (zQ Q) := by
  refine zr_callSN hd hp hw hR hn hst h8 ⟨?_, ?_⟩ hr (fun r N' M' h h2 => ?_) hM (fun r N' M' h => ?_)
  · rw [hm]; exact Nat.zero_le _
  · rw [hm]; exact Nat.zero_le _
  · rw [h.1] at h2; cases h2
  · obtain ⟨rfl, h⟩ := h
    rw [hm]
    exact k r M' h
end zn

